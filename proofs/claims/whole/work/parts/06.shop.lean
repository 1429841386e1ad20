theorem cl_SH_78 {p : Program} {l : Launch} {e : Env} {R : Room} {s : State} {m : MethodId} {args : Array Value} {below : List Frame} {meth : Method} {c : Code} {H : Heap} {locs : List Loc} {cells slots : Nat} {Q : State → Prop} {cc : ByteArray} {pc : Nat} {ls : Array Slot} {rest : List Value} {E : Ev} {A : Nat → Prop} {ad : Nat → Nat} {nL : Nat} {rt : Option FieldType} (C0 : Cx E A RSH cc nL rt p s m args meth c) (hap : Ap ad ixC A) {x x' : St} {v0 : Nat} {v1 : Int32} {v2 : Int32} {r : Int32} (ho_v0 : isO ixC v0 1) (hc : ff_LE_at x v0 v1 v2 = some (r, x')) (hP : Wd E ad ixC x H) (hS : va_S A s.heap H locs) (hR : rm_LE_at.frames + 1 ≤ R.frames ∧ 8 + (3 + 11) + rm_LE_at.locals ≤ R.locals) (hls : ls.size = nL) (hroom : (rest.map fun v => v.category).sum ≤ 8) (hdg : decode cc pc = .ok (.invokevirtual 78, 3)) (hf : cells ≤ R.cells ∧ slots ≤ R.slots) (kk : ∀ H1 locs1, Wd E ad ixC x' H1 → va_S A s.heap H1 locs1 → W p l e R s m args below meth c H1 locs1 cells slots Q (F0 m (pc + 3) ls (.int r :: rest))) : W p l e R s m args below meth c H locs cells slots Q (F0 m pc ls (.int v2 :: .int v1 :: .ref (ad v0) :: rest)) :=
  rcV (n := 2) C0 (cc_LE_at hap ho_v0 hc) hP hS ho_v0 vcl_1 (by decide) gw_code_LE_at gw_m_SH_78 gw_inst_LE_at gw_sel_LE_at gw_ini_LE rfl rfl (by decide +kernel) rfl hR hls rfl hroom hdg hf (fun H1 locs1 a _ _ b => kk H1 locs1 a b)
abbrev rm_SH_isPartOf : Room := { frames := 2, cells := 0, slots := 0, locals := 43 }
theorem dd_SH_isPartOf_0 : decode bb_SH_isPartOf 0 = .ok (.aload_n 0, 1) := by decide +kernel
theorem dd_SH_isPartOf_1 : decode bb_SH_isPartOf 1 = .ok (.getfield 23, 3) := by decide +kernel
theorem dd_SH_isPartOf_4 : decode bb_SH_isPartOf 4 = .ok (.iload_n 2, 1) := by decide +kernel
theorem dd_SH_isPartOf_5 : decode bb_SH_isPartOf 5 = .ok (.iconst 0, 1) := by decide +kernel
theorem dd_SH_isPartOf_6 : decode bb_SH_isPartOf 6 = .ok (.invokevirtual 78, 3) := by decide +kernel
theorem dd_SH_isPartOf_9 : decode bb_SH_isPartOf 9 = .ok (.iload_n 1, 1) := by decide +kernel
theorem dd_SH_isPartOf_10 : decode bb_SH_isPartOf 10 = .ok (.ishr, 1) := by decide +kernel
theorem dd_SH_isPartOf_11 : decode bb_SH_isPartOf 11 = .ok (.iconst 1, 1) := by decide +kernel
theorem dd_SH_isPartOf_12 : decode bb_SH_isPartOf 12 = .ok (.iand, 1) := by decide +kernel
theorem dd_SH_isPartOf_13 : decode bb_SH_isPartOf 13 = .ok (.iconst 1, 1) := by decide +kernel
theorem dd_SH_isPartOf_14 : decode bb_SH_isPartOf 14 = .ok (.if_icmp .ne 7, 3) := by decide +kernel
theorem dd_SH_isPartOf_17 : decode bb_SH_isPartOf 17 = .ok (.iconst 1, 1) := by decide +kernel
theorem dd_SH_isPartOf_18 : decode bb_SH_isPartOf 18 = .ok (.goto 4, 3) := by decide +kernel
theorem dd_SH_isPartOf_21 : decode bb_SH_isPartOf 21 = .ok (.iconst 0, 1) := by decide +kernel
theorem dd_SH_isPartOf_22 : decode bb_SH_isPartOf 22 = .ok (.ireturn, 1) := by decide +kernel
def ff_SH_isPartOf  (x : St) (v0 : Nat) (v1 : Int32) (v2 : Int32) : Option (Int32 × St) := bnd (ff_LE_at x (rf v0 2) v2 0) (fun r_1 x_2 => (if ((r_1 >>> (v1 &&& 31)) &&& 1) = 1 then some (1, x_2) else some (0, x_2)))
set_option maxHeartbeats 4000000 in
set_option maxRecDepth 100000 in
theorem ww_SH_isPartOf {p : Program} {l : Launch} {e : Env} {s : State} {m : MethodId} {args : Array Value} {below : List Frame} {meth : Method} {c : Code} {E : Ev} {A : Nat → Prop} {ad : Nat → Nat} {r : Int32} {x' : St} (C0 : Cx E A RSH bb_SH_isPartOf 3 (some .boolean) p s m args meth c) (hap : Ap ad ixC A)  {x : St} {v0 : Nat} {v1 : Int32} {v2 : Int32} (ho_v0 : isO ixC v0 4) (hf : ff_SH_isPartOf x v0 v1 v2 = some (r, x')) {H : Heap} {locs : List Loc} {ls : Array Slot} (hP : Wd E ad ixC x H) (hS : va_S A s.heap H locs) (hl : lv_has ls 3 [(0, .ref (ad v0)), (1, .int v1), (2, .int v2)]) : W p l e rm_SH_isPartOf s m args below meth c H locs 0 0 (MQ below (QX E ad ixC A (some (.int r)) x') args s 0 0 A) (F0 m 0 ls []) := by
  obtain ⟨hx, hb, hml, hr, hown, hts, hlk, hK⟩ := id C0
  have hf : bnd (ff_LE_at x (rf v0 2) v2 0) (fun r_1 x_2 => (if ((r_1 >>> (v1 &&& 31)) &&& 1) = 1 then some (1, x_2) else some (0, x_2))) = some (r, x') := hf
  refine lv_aload_n hx hb dd_SH_isPartOf_0 rfl (lv_at hl 0 rfl) ?_
  refine gf_SH_23 C0 hP ho_v0 dd_SH_isPartOf_1 ?_
  refine lv_iload_n hx hb dd_SH_isPartOf_4 rfl (lv_at hl 2 rfl) ?_
  refine lv_iconst (v := 0) hx hb dd_SH_isPartOf_5 (by decide) ?_
  obtain ⟨r_1, x_2, c_3, hf⟩ := of_bnd hf
  refine cl_SH_78 C0 hap (tp_4_2 ho_v0) c_3 hP hS ⟨Nat.le_of_ble_eq_true rfl, Nat.le_of_ble_eq_true rfl⟩ hl.1 (Nat.le_of_ble_eq_true rfl) dd_SH_isPartOf_6 ⟨Nat.le_refl _, Nat.le_refl _⟩ (fun H locs hP hS => ?_)
  refine lv_iload_n hx hb dd_SH_isPartOf_9 rfl (lv_at hl 1 rfl) ?_
  refine lv_ishr hx hb dd_SH_isPartOf_10 ?_
  refine lv_iconst (v := 1) hx hb dd_SH_isPartOf_11 (by decide) ?_
  refine lv_iand hx hb dd_SH_isPartOf_12 ?_
  refine lv_iconst (v := 1) hx hb dd_SH_isPartOf_13 (by decide) ?_
  refine lv_icmp_ne (tgt := 21) hx hb dd_SH_isPartOf_14 (by decide) (fun h_4 => ?_) (fun h_4 => ?_)
  · have hf := (if_neg h_4).symm.trans hf
    refine lv_iconst (v := 0) hx hb dd_SH_isPartOf_21 (by decide) ?_
    exact rrZ C0 hP hS (by decide) dd_SH_isPartOf_22 hf
  · have hf := (if_pos h_4).symm.trans hf
    refine lv_iconst (v := 1) hx hb dd_SH_isPartOf_17 (by decide) ?_
    refine lv_goto (tgt := 22) hx hb dd_SH_isPartOf_18 (by decide) ?_
    exact rrZ C0 hP hS (by decide) dd_SH_isPartOf_22 hf
theorem cc_SH_isPartOf {l : Launch} {E : Ev} {A : Nat → Prop} {ad : Nat → Nat} (hap : Ap ad ixC A) {x x' : St} {v0 : Nat} {v1 : Int32} {v2 : Int32} {r : Int32} (ho_v0 : isO ixC v0 4) (hf : ff_SH_isPartOf x v0 v1 v2 = some (r, x')) : Met l yy_SH_isPartOf (Cond.code yy_SH_isPartOf bb_SH_isPartOf 3 (some .boolean) :: gtb) rm_SH_isPartOf (va_Pc [.ref (ad v0), .int v1, .int v2] (PB E A ad ixC x)) (QX E ad ixC A (some (.int r)) x') 0 0 A := by
  exact enter (by decide) (Nat.le_of_ble_eq_true rfl) (fun p e s m below meth c ls C0 hP hS hl => ww_SH_isPartOf C0 hap ho_v0 hf hP hS hl)
theorem cl_SH_85 {p : Program} {l : Launch} {e : Env} {R : Room} {s : State} {m : MethodId} {args : Array Value} {below : List Frame} {meth : Method} {c : Code} {H : Heap} {locs : List Loc} {cells slots : Nat} {Q : State → Prop} {cc : ByteArray} {pc : Nat} {ls : Array Slot} {rest : List Value} {E : Ev} {A : Nat → Prop} {ad : Nat → Nat} {nL : Nat} {rt : Option FieldType} (C0 : Cx E A RSH cc nL rt p s m args meth c) (hap : Ap ad ixC A) {x x' : St} {v0 : Nat} {v1 : Int32} {r : Int32} (ho_v0 : isO ixC v0 1) (hc : ff_LE_has x v0 v1 = some (r, x')) (hP : Wd E ad ixC x H) (hS : va_S A s.heap H locs) (hR : rm_LE_has.frames + 1 ≤ R.frames ∧ 8 + (2 + 11) + rm_LE_has.locals ≤ R.locals) (hls : ls.size = nL) (hroom : (rest.map fun v => v.category).sum ≤ 8) (hdg : decode cc pc = .ok (.invokevirtual 85, 3)) (hf : cells ≤ R.cells ∧ slots ≤ R.slots) (kk : ∀ H1 locs1, Wd E ad ixC x' H1 → va_S A s.heap H1 locs1 → W p l e R s m args below meth c H1 locs1 cells slots Q (F0 m (pc + 3) ls (.int r :: rest))) : W p l e R s m args below meth c H locs cells slots Q (F0 m pc ls (.int v1 :: .ref (ad v0) :: rest)) :=
  rcV (n := 1) C0 (cc_LE_has hap ho_v0 hc) hP hS ho_v0 vcl_1 (by decide) gw_code_LE_has gw_m_SH_85 gw_inst_LE_has gw_sel_LE_has gw_ini_LE rfl rfl (by decide +kernel) rfl hR hls rfl hroom hdg hf (fun H1 locs1 a _ _ b => kk H1 locs1 a b)
abbrev rm_SH_boiledOn : Room := { frames := 1, cells := 0, slots := 0, locals := 21 }
theorem dd_SH_boiledOn_0 : decode bb_SH_boiledOn 0 = .ok (.aload_n 0, 1) := by decide +kernel
theorem dd_SH_boiledOn_1 : decode bb_SH_boiledOn 1 = .ok (.getfield 20, 3) := by decide +kernel
theorem dd_SH_boiledOn_4 : decode bb_SH_boiledOn 4 = .ok (.iload_n 1, 1) := by decide +kernel
theorem dd_SH_boiledOn_5 : decode bb_SH_boiledOn 5 = .ok (.invokevirtual 85, 3) := by decide +kernel
theorem dd_SH_boiledOn_8 : decode bb_SH_boiledOn 8 = .ok (.ifCond .eq 14, 3) := by decide +kernel
theorem dd_SH_boiledOn_11 : decode bb_SH_boiledOn 11 = .ok (.aload_n 0, 1) := by decide +kernel
theorem dd_SH_boiledOn_12 : decode bb_SH_boiledOn 12 = .ok (.getfield 37, 3) := by decide +kernel
theorem dd_SH_boiledOn_15 : decode bb_SH_boiledOn 15 = .ok (.iload_n 1, 1) := by decide +kernel
theorem dd_SH_boiledOn_16 : decode bb_SH_boiledOn 16 = .ok (.iconst 3, 1) := by decide +kernel
theorem dd_SH_boiledOn_17 : decode bb_SH_boiledOn 17 = .ok (.imul, 1) := by decide +kernel
theorem dd_SH_boiledOn_18 : decode bb_SH_boiledOn 18 = .ok (.iaload, 1) := by decide +kernel
theorem dd_SH_boiledOn_19 : decode bb_SH_boiledOn 19 = .ok (.goto 4, 3) := by decide +kernel
theorem dd_SH_boiledOn_22 : decode bb_SH_boiledOn 22 = .ok (.iconst (-1), 1) := by decide +kernel
theorem dd_SH_boiledOn_23 : decode bb_SH_boiledOn 23 = .ok (.ireturn, 1) := by decide +kernel
def ff_SH_boiledOn  (x : St) (v0 : Nat) (v1 : Int32) : Option (Int32 × St) := bnd (ff_LE_has x (rf v0 1) v1) (fun r_1 x_2 => (if r_1 = 0 then some ((-1), x_2) else (if ixb (v1 * 3) (ln (rf v0 6)) = true then some (gi x_2 (rf v0 6) (ix (v1 * 3)), x_2) else none)))
set_option maxHeartbeats 4000000 in
set_option maxRecDepth 100000 in
theorem ww_SH_boiledOn {p : Program} {l : Launch} {e : Env} {s : State} {m : MethodId} {args : Array Value} {below : List Frame} {meth : Method} {c : Code} {E : Ev} {A : Nat → Prop} {ad : Nat → Nat} {r : Int32} {x' : St} (C0 : Cx E A RSH bb_SH_boiledOn 2 (some .int) p s m args meth c) (hap : Ap ad ixC A)  {x : St} {v0 : Nat} {v1 : Int32} (ho_v0 : isO ixC v0 4) (hf : ff_SH_boiledOn x v0 v1 = some (r, x')) {H : Heap} {locs : List Loc} {ls : Array Slot} (hP : Wd E ad ixC x H) (hS : va_S A s.heap H locs) (hl : lv_has ls 2 [(0, .ref (ad v0)), (1, .int v1)]) : W p l e rm_SH_boiledOn s m args below meth c H locs 0 0 (MQ below (QX E ad ixC A (some (.int r)) x') args s 0 0 A) (F0 m 0 ls []) := by
  obtain ⟨hx, hb, hml, hr, hown, hts, hlk, hK⟩ := id C0
  have hf : bnd (ff_LE_has x (rf v0 1) v1) (fun r_1 x_2 => (if r_1 = 0 then some ((-1), x_2) else (if ixb (v1 * 3) (ln (rf v0 6)) = true then some (gi x_2 (rf v0 6) (ix (v1 * 3)), x_2) else none))) = some (r, x') := hf
  refine lv_aload_n hx hb dd_SH_boiledOn_0 rfl (lv_at hl 0 rfl) ?_
  refine gf_SH_20 C0 hP ho_v0 dd_SH_boiledOn_1 ?_
  refine lv_iload_n hx hb dd_SH_boiledOn_4 rfl (lv_at hl 1 rfl) ?_
  obtain ⟨r_1, x_2, c_3, hf⟩ := of_bnd hf
  refine cl_SH_85 C0 hap (tp_4_1 ho_v0) c_3 hP hS ⟨Nat.le_of_ble_eq_true rfl, Nat.le_of_ble_eq_true rfl⟩ hl.1 (Nat.le_of_ble_eq_true rfl) dd_SH_boiledOn_5 ⟨Nat.le_refl _, Nat.le_refl _⟩ (fun H locs hP hS => ?_)
  refine lv_if_eq (tgt := 22) hx hb dd_SH_boiledOn_8 (by decide) (fun h_4 => ?_) (fun h_4 => ?_)
  · have hf := (if_pos h_4).symm.trans hf
    refine lv_iconst (v := -1) hx hb dd_SH_boiledOn_22 (by decide) ?_
    exact rrI C0 hP hS dd_SH_boiledOn_23 hf
  · have hf := (if_neg h_4).symm.trans hf
    refine lv_aload_n hx hb dd_SH_boiledOn_11 rfl (lv_at hl 0 rfl) ?_
    refine gf_SH_37 C0 hP ho_v0 dd_SH_boiledOn_12 ?_
    refine lv_iload_n hx hb dd_SH_boiledOn_15 rfl (lv_at hl 1 rfl) ?_
    refine lv_iconst (v := 3) hx hb dd_SH_boiledOn_16 (by decide) ?_
    refine lv_imul hx hb dd_SH_boiledOn_17 ?_
    obtain ⟨h_5, hf⟩ := of_ifb hf
    refine raI C0 hP (tp_4_6 ho_v0) h_5 dd_SH_boiledOn_18 ?_
    refine lv_goto (tgt := 23) hx hb dd_SH_boiledOn_19 (by decide) ?_
    exact rrI C0 hP hS dd_SH_boiledOn_23 hf
theorem cc_SH_boiledOn {l : Launch} {E : Ev} {A : Nat → Prop} {ad : Nat → Nat} (hap : Ap ad ixC A) {x x' : St} {v0 : Nat} {v1 : Int32} {r : Int32} (ho_v0 : isO ixC v0 4) (hf : ff_SH_boiledOn x v0 v1 = some (r, x')) : Met l yy_SH_boiledOn (Cond.code yy_SH_boiledOn bb_SH_boiledOn 2 (some .int) :: gtb) rm_SH_boiledOn (va_Pc [.ref (ad v0), .int v1] (PB E A ad ixC x)) (QX E ad ixC A (some (.int r)) x') 0 0 A := by
  exact enter (by decide) (Nat.le_of_ble_eq_true rfl) (fun p e s m below meth c ls C0 hP hS hl => ww_SH_boiledOn C0 hap ho_v0 hf hP hS hl)
abbrev rm_SH_firstBoiler : Room := { frames := 1, cells := 0, slots := 0, locals := 21 }
theorem dd_SH_firstBoiler_0 : decode bb_SH_firstBoiler 0 = .ok (.aload_n 0, 1) := by decide +kernel
theorem dd_SH_firstBoiler_1 : decode bb_SH_firstBoiler 1 = .ok (.getfield 20, 3) := by decide +kernel
theorem dd_SH_firstBoiler_4 : decode bb_SH_firstBoiler 4 = .ok (.iload_n 1, 1) := by decide +kernel
theorem dd_SH_firstBoiler_5 : decode bb_SH_firstBoiler 5 = .ok (.invokevirtual 85, 3) := by decide +kernel
theorem dd_SH_firstBoiler_8 : decode bb_SH_firstBoiler 8 = .ok (.ifCond .eq 16, 3) := by decide +kernel
theorem dd_SH_firstBoiler_11 : decode bb_SH_firstBoiler 11 = .ok (.aload_n 0, 1) := by decide +kernel
theorem dd_SH_firstBoiler_12 : decode bb_SH_firstBoiler 12 = .ok (.getfield 37, 3) := by decide +kernel
theorem dd_SH_firstBoiler_15 : decode bb_SH_firstBoiler 15 = .ok (.iload_n 1, 1) := by decide +kernel
theorem dd_SH_firstBoiler_16 : decode bb_SH_firstBoiler 16 = .ok (.iconst 3, 1) := by decide +kernel
theorem dd_SH_firstBoiler_17 : decode bb_SH_firstBoiler 17 = .ok (.imul, 1) := by decide +kernel
theorem dd_SH_firstBoiler_18 : decode bb_SH_firstBoiler 18 = .ok (.iconst 1, 1) := by decide +kernel
theorem dd_SH_firstBoiler_19 : decode bb_SH_firstBoiler 19 = .ok (.iadd, 1) := by decide +kernel
theorem dd_SH_firstBoiler_20 : decode bb_SH_firstBoiler 20 = .ok (.iaload, 1) := by decide +kernel
theorem dd_SH_firstBoiler_21 : decode bb_SH_firstBoiler 21 = .ok (.goto 4, 3) := by decide +kernel
theorem dd_SH_firstBoiler_24 : decode bb_SH_firstBoiler 24 = .ok (.iconst (-1), 1) := by decide +kernel
theorem dd_SH_firstBoiler_25 : decode bb_SH_firstBoiler 25 = .ok (.ireturn, 1) := by decide +kernel
def ff_SH_firstBoiler  (x : St) (v0 : Nat) (v1 : Int32) : Option (Int32 × St) := bnd (ff_LE_has x (rf v0 1) v1) (fun r_1 x_2 => (if r_1 = 0 then some ((-1), x_2) else (if ixb ((v1 * 3) + 1) (ln (rf v0 6)) = true then some (gi x_2 (rf v0 6) (ix ((v1 * 3) + 1)), x_2) else none)))
set_option maxHeartbeats 4000000 in
set_option maxRecDepth 100000 in
theorem ww_SH_firstBoiler {p : Program} {l : Launch} {e : Env} {s : State} {m : MethodId} {args : Array Value} {below : List Frame} {meth : Method} {c : Code} {E : Ev} {A : Nat → Prop} {ad : Nat → Nat} {r : Int32} {x' : St} (C0 : Cx E A RSH bb_SH_firstBoiler 2 (some .int) p s m args meth c) (hap : Ap ad ixC A)  {x : St} {v0 : Nat} {v1 : Int32} (ho_v0 : isO ixC v0 4) (hf : ff_SH_firstBoiler x v0 v1 = some (r, x')) {H : Heap} {locs : List Loc} {ls : Array Slot} (hP : Wd E ad ixC x H) (hS : va_S A s.heap H locs) (hl : lv_has ls 2 [(0, .ref (ad v0)), (1, .int v1)]) : W p l e rm_SH_firstBoiler s m args below meth c H locs 0 0 (MQ below (QX E ad ixC A (some (.int r)) x') args s 0 0 A) (F0 m 0 ls []) := by
  obtain ⟨hx, hb, hml, hr, hown, hts, hlk, hK⟩ := id C0
  have hf : bnd (ff_LE_has x (rf v0 1) v1) (fun r_1 x_2 => (if r_1 = 0 then some ((-1), x_2) else (if ixb ((v1 * 3) + 1) (ln (rf v0 6)) = true then some (gi x_2 (rf v0 6) (ix ((v1 * 3) + 1)), x_2) else none))) = some (r, x') := hf
  refine lv_aload_n hx hb dd_SH_firstBoiler_0 rfl (lv_at hl 0 rfl) ?_
  refine gf_SH_20 C0 hP ho_v0 dd_SH_firstBoiler_1 ?_
  refine lv_iload_n hx hb dd_SH_firstBoiler_4 rfl (lv_at hl 1 rfl) ?_
  obtain ⟨r_1, x_2, c_3, hf⟩ := of_bnd hf
  refine cl_SH_85 C0 hap (tp_4_1 ho_v0) c_3 hP hS ⟨Nat.le_of_ble_eq_true rfl, Nat.le_of_ble_eq_true rfl⟩ hl.1 (Nat.le_of_ble_eq_true rfl) dd_SH_firstBoiler_5 ⟨Nat.le_refl _, Nat.le_refl _⟩ (fun H locs hP hS => ?_)
  refine lv_if_eq (tgt := 24) hx hb dd_SH_firstBoiler_8 (by decide) (fun h_4 => ?_) (fun h_4 => ?_)
  · have hf := (if_pos h_4).symm.trans hf
    refine lv_iconst (v := -1) hx hb dd_SH_firstBoiler_24 (by decide) ?_
    exact rrI C0 hP hS dd_SH_firstBoiler_25 hf
  · have hf := (if_neg h_4).symm.trans hf
    refine lv_aload_n hx hb dd_SH_firstBoiler_11 rfl (lv_at hl 0 rfl) ?_
    refine gf_SH_37 C0 hP ho_v0 dd_SH_firstBoiler_12 ?_
    refine lv_iload_n hx hb dd_SH_firstBoiler_15 rfl (lv_at hl 1 rfl) ?_
    refine lv_iconst (v := 3) hx hb dd_SH_firstBoiler_16 (by decide) ?_
    refine lv_imul hx hb dd_SH_firstBoiler_17 ?_
    refine lv_iconst (v := 1) hx hb dd_SH_firstBoiler_18 (by decide) ?_
    refine lv_iadd hx hb dd_SH_firstBoiler_19 ?_
    obtain ⟨h_5, hf⟩ := of_ifb hf
    refine raI C0 hP (tp_4_6 ho_v0) h_5 dd_SH_firstBoiler_20 ?_
    refine lv_goto (tgt := 25) hx hb dd_SH_firstBoiler_21 (by decide) ?_
    exact rrI C0 hP hS dd_SH_firstBoiler_25 hf
theorem cc_SH_firstBoiler {l : Launch} {E : Ev} {A : Nat → Prop} {ad : Nat → Nat} (hap : Ap ad ixC A) {x x' : St} {v0 : Nat} {v1 : Int32} {r : Int32} (ho_v0 : isO ixC v0 4) (hf : ff_SH_firstBoiler x v0 v1 = some (r, x')) : Met l yy_SH_firstBoiler (Cond.code yy_SH_firstBoiler bb_SH_firstBoiler 2 (some .int) :: gtb) rm_SH_firstBoiler (va_Pc [.ref (ad v0), .int v1] (PB E A ad ixC x)) (QX E ad ixC A (some (.int r)) x') 0 0 A := by
  exact enter (by decide) (Nat.le_of_ble_eq_true rfl) (fun p e s m below meth c ls C0 hP hS hl => ww_SH_firstBoiler C0 hap ho_v0 hf hP hS hl)
abbrev rm_SH_griefsOf : Room := { frames := 1, cells := 0, slots := 0, locals := 21 }
theorem dd_SH_griefsOf_0 : decode bb_SH_griefsOf 0 = .ok (.aload_n 0, 1) := by decide +kernel
theorem dd_SH_griefsOf_1 : decode bb_SH_griefsOf 1 = .ok (.getfield 14, 3) := by decide +kernel
theorem dd_SH_griefsOf_4 : decode bb_SH_griefsOf 4 = .ok (.iload_n 1, 1) := by decide +kernel
theorem dd_SH_griefsOf_5 : decode bb_SH_griefsOf 5 = .ok (.invokevirtual 85, 3) := by decide +kernel
theorem dd_SH_griefsOf_8 : decode bb_SH_griefsOf 8 = .ok (.ifCond .eq 12, 3) := by decide +kernel
theorem dd_SH_griefsOf_11 : decode bb_SH_griefsOf 11 = .ok (.aload_n 0, 1) := by decide +kernel
theorem dd_SH_griefsOf_12 : decode bb_SH_griefsOf 12 = .ok (.getfield 34, 3) := by decide +kernel
theorem dd_SH_griefsOf_15 : decode bb_SH_griefsOf 15 = .ok (.iload_n 1, 1) := by decide +kernel
theorem dd_SH_griefsOf_16 : decode bb_SH_griefsOf 16 = .ok (.aaload, 1) := by decide +kernel
theorem dd_SH_griefsOf_17 : decode bb_SH_griefsOf 17 = .ok (.goto 4, 3) := by decide +kernel
theorem dd_SH_griefsOf_20 : decode bb_SH_griefsOf 20 = .ok (.aconst_null, 1) := by decide +kernel
theorem dd_SH_griefsOf_21 : decode bb_SH_griefsOf 21 = .ok (.areturn, 1) := by decide +kernel
def ff_SH_griefsOf  (x : St) (v0 : Nat) (v1 : Int32) : Option (Option Nat × St) := bnd (ff_LE_has x (rf v0 0) v1) (fun r_1 x_2 => (if r_1 = 0 then some (none, x_2) else (if ixb v1 (ln (rf v0 5)) = true then some ((some (rf (rf v0 5) (ix v1))), x_2) else none)))
set_option maxHeartbeats 4000000 in
set_option maxRecDepth 100000 in
theorem ww_SH_griefsOf {p : Program} {l : Launch} {e : Env} {s : State} {m : MethodId} {args : Array Value} {below : List Frame} {meth : Method} {c : Code} {E : Ev} {A : Nat → Prop} {ad : Nat → Nat} {r : Option Nat} {x' : St} (C0 : Cx E A RSH bb_SH_griefsOf 2 (some (.array .int)) p s m args meth c) (hap : Ap ad ixC A)  {x : St} {v0 : Nat} {v1 : Int32} (ho_v0 : isO ixC v0 4) (hf : ff_SH_griefsOf x v0 v1 = some (r, x')) {H : Heap} {locs : List Loc} {ls : Array Slot} (hP : Wd E ad ixC x H) (hS : va_S A s.heap H locs) (hl : lv_has ls 2 [(0, .ref (ad v0)), (1, .int v1)]) : W p l e rm_SH_griefsOf s m args below meth c H locs 0 0 (MQ below (QX E ad ixC A (some (va_re ad r)) x') args s 0 0 A) (F0 m 0 ls []) := by
  obtain ⟨hx, hb, hml, hr, hown, hts, hlk, hK⟩ := id C0
  have hf : bnd (ff_LE_has x (rf v0 0) v1) (fun r_1 x_2 => (if r_1 = 0 then some (none, x_2) else (if ixb v1 (ln (rf v0 5)) = true then some ((some (rf (rf v0 5) (ix v1))), x_2) else none))) = some (r, x') := hf
  refine lv_aload_n hx hb dd_SH_griefsOf_0 rfl (lv_at hl 0 rfl) ?_
  refine gf_SH_14 C0 hP ho_v0 dd_SH_griefsOf_1 ?_
  refine lv_iload_n hx hb dd_SH_griefsOf_4 rfl (lv_at hl 1 rfl) ?_
  obtain ⟨r_1, x_2, c_3, hf⟩ := of_bnd hf
  refine cl_SH_85 C0 hap (tp_4_0 ho_v0) c_3 hP hS ⟨Nat.le_of_ble_eq_true rfl, Nat.le_of_ble_eq_true rfl⟩ hl.1 (Nat.le_of_ble_eq_true rfl) dd_SH_griefsOf_5 ⟨Nat.le_refl _, Nat.le_refl _⟩ (fun H locs hP hS => ?_)
  refine lv_if_eq (tgt := 20) hx hb dd_SH_griefsOf_8 (by decide) (fun h_4 => ?_) (fun h_4 => ?_)
  · have hf := (if_pos h_4).symm.trans hf
    refine lv_null hx hb dd_SH_griefsOf_20 ?_
    exact rrQ (v := none) C0 hP hS dd_SH_griefsOf_21 hf
  · have hf := (if_neg h_4).symm.trans hf
    refine lv_aload_n hx hb dd_SH_griefsOf_11 rfl (lv_at hl 0 rfl) ?_
    refine gf_SH_34 C0 hP ho_v0 dd_SH_griefsOf_12 ?_
    refine lv_iload_n hx hb dd_SH_griefsOf_15 rfl (lv_at hl 1 rfl) ?_
    obtain ⟨h_5, hf⟩ := of_ifb hf
    refine raA C0 hP (tp_4_5 ho_v0) h_5 dd_SH_griefsOf_16 ?_
    refine lv_goto (tgt := 21) hx hb dd_SH_griefsOf_17 (by decide) ?_
    exact rrQ (v := (some (rf (rf v0 5) (ix v1)))) C0 hP hS dd_SH_griefsOf_21 hf
theorem cc_SH_griefsOf {l : Launch} {E : Ev} {A : Nat → Prop} {ad : Nat → Nat} (hap : Ap ad ixC A) {x x' : St} {v0 : Nat} {v1 : Int32} {r : Option Nat} (ho_v0 : isO ixC v0 4) (hf : ff_SH_griefsOf x v0 v1 = some (r, x')) : Met l yy_SH_griefsOf (Cond.code yy_SH_griefsOf bb_SH_griefsOf 2 (some (.array .int)) :: gtb) rm_SH_griefsOf (va_Pc [.ref (ad v0), .int v1] (PB E A ad ixC x)) (QX E ad ixC A (some (va_re ad r)) x') 0 0 A := by
  exact enter (by decide) (Nat.le_of_ble_eq_true rfl) (fun p e s m below meth c ls C0 hP hS hl => ww_SH_griefsOf C0 hap ho_v0 hf hP hS hl)
theorem qq_SH_griefsOf {x x' : St} {v0 : Nat} {v1 : Int32} {r : Option Nat} (ho_v0 : isO ixC v0 4) (hf : ff_SH_griefsOf x v0 v1 = some (r, x')) : ∀ q, r = some q → isO ixC q 20 := by
  obtain ⟨r1, x1, -, hf⟩ := of_bnd hf
  by_cases h : r1 = 0
  · have hf := (if_pos h).symm.trans hf
    obtain ⟨rfl, -⟩ := of_ret hf
    intro q h; cases h
  · have hf := (if_neg h).symm.trans hf
    obtain ⟨hi, hf⟩ := of_ifb hf
    obtain ⟨rfl, -⟩ := of_ret hf
    intro q h
    cases h
    exact tp_25 (tp_4_5 ho_v0) hi
abbrev rm_SH_secondBoiler : Room := { frames := 1, cells := 0, slots := 0, locals := 21 }
theorem dd_SH_secondBoiler_0 : decode bb_SH_secondBoiler 0 = .ok (.aload_n 0, 1) := by decide +kernel
theorem dd_SH_secondBoiler_1 : decode bb_SH_secondBoiler 1 = .ok (.getfield 20, 3) := by decide +kernel
theorem dd_SH_secondBoiler_4 : decode bb_SH_secondBoiler 4 = .ok (.iload_n 1, 1) := by decide +kernel
theorem dd_SH_secondBoiler_5 : decode bb_SH_secondBoiler 5 = .ok (.invokevirtual 85, 3) := by decide +kernel
theorem dd_SH_secondBoiler_8 : decode bb_SH_secondBoiler 8 = .ok (.ifCond .eq 16, 3) := by decide +kernel
theorem dd_SH_secondBoiler_11 : decode bb_SH_secondBoiler 11 = .ok (.aload_n 0, 1) := by decide +kernel
theorem dd_SH_secondBoiler_12 : decode bb_SH_secondBoiler 12 = .ok (.getfield 37, 3) := by decide +kernel
theorem dd_SH_secondBoiler_15 : decode bb_SH_secondBoiler 15 = .ok (.iload_n 1, 1) := by decide +kernel
theorem dd_SH_secondBoiler_16 : decode bb_SH_secondBoiler 16 = .ok (.iconst 3, 1) := by decide +kernel
theorem dd_SH_secondBoiler_17 : decode bb_SH_secondBoiler 17 = .ok (.imul, 1) := by decide +kernel
theorem dd_SH_secondBoiler_18 : decode bb_SH_secondBoiler 18 = .ok (.iconst 2, 1) := by decide +kernel
theorem dd_SH_secondBoiler_19 : decode bb_SH_secondBoiler 19 = .ok (.iadd, 1) := by decide +kernel
theorem dd_SH_secondBoiler_20 : decode bb_SH_secondBoiler 20 = .ok (.iaload, 1) := by decide +kernel
theorem dd_SH_secondBoiler_21 : decode bb_SH_secondBoiler 21 = .ok (.goto 4, 3) := by decide +kernel
theorem dd_SH_secondBoiler_24 : decode bb_SH_secondBoiler 24 = .ok (.iconst (-1), 1) := by decide +kernel
theorem dd_SH_secondBoiler_25 : decode bb_SH_secondBoiler 25 = .ok (.ireturn, 1) := by decide +kernel
def ff_SH_secondBoiler  (x : St) (v0 : Nat) (v1 : Int32) : Option (Int32 × St) := bnd (ff_LE_has x (rf v0 1) v1) (fun r_1 x_2 => (if r_1 = 0 then some ((-1), x_2) else (if ixb ((v1 * 3) + 2) (ln (rf v0 6)) = true then some (gi x_2 (rf v0 6) (ix ((v1 * 3) + 2)), x_2) else none)))
set_option maxHeartbeats 4000000 in
set_option maxRecDepth 100000 in
theorem ww_SH_secondBoiler {p : Program} {l : Launch} {e : Env} {s : State} {m : MethodId} {args : Array Value} {below : List Frame} {meth : Method} {c : Code} {E : Ev} {A : Nat → Prop} {ad : Nat → Nat} {r : Int32} {x' : St} (C0 : Cx E A RSH bb_SH_secondBoiler 2 (some .int) p s m args meth c) (hap : Ap ad ixC A)  {x : St} {v0 : Nat} {v1 : Int32} (ho_v0 : isO ixC v0 4) (hf : ff_SH_secondBoiler x v0 v1 = some (r, x')) {H : Heap} {locs : List Loc} {ls : Array Slot} (hP : Wd E ad ixC x H) (hS : va_S A s.heap H locs) (hl : lv_has ls 2 [(0, .ref (ad v0)), (1, .int v1)]) : W p l e rm_SH_secondBoiler s m args below meth c H locs 0 0 (MQ below (QX E ad ixC A (some (.int r)) x') args s 0 0 A) (F0 m 0 ls []) := by
  obtain ⟨hx, hb, hml, hr, hown, hts, hlk, hK⟩ := id C0
  have hf : bnd (ff_LE_has x (rf v0 1) v1) (fun r_1 x_2 => (if r_1 = 0 then some ((-1), x_2) else (if ixb ((v1 * 3) + 2) (ln (rf v0 6)) = true then some (gi x_2 (rf v0 6) (ix ((v1 * 3) + 2)), x_2) else none))) = some (r, x') := hf
  refine lv_aload_n hx hb dd_SH_secondBoiler_0 rfl (lv_at hl 0 rfl) ?_
  refine gf_SH_20 C0 hP ho_v0 dd_SH_secondBoiler_1 ?_
  refine lv_iload_n hx hb dd_SH_secondBoiler_4 rfl (lv_at hl 1 rfl) ?_
  obtain ⟨r_1, x_2, c_3, hf⟩ := of_bnd hf
  refine cl_SH_85 C0 hap (tp_4_1 ho_v0) c_3 hP hS ⟨Nat.le_of_ble_eq_true rfl, Nat.le_of_ble_eq_true rfl⟩ hl.1 (Nat.le_of_ble_eq_true rfl) dd_SH_secondBoiler_5 ⟨Nat.le_refl _, Nat.le_refl _⟩ (fun H locs hP hS => ?_)
  refine lv_if_eq (tgt := 24) hx hb dd_SH_secondBoiler_8 (by decide) (fun h_4 => ?_) (fun h_4 => ?_)
  · have hf := (if_pos h_4).symm.trans hf
    refine lv_iconst (v := -1) hx hb dd_SH_secondBoiler_24 (by decide) ?_
    exact rrI C0 hP hS dd_SH_secondBoiler_25 hf
  · have hf := (if_neg h_4).symm.trans hf
    refine lv_aload_n hx hb dd_SH_secondBoiler_11 rfl (lv_at hl 0 rfl) ?_
    refine gf_SH_37 C0 hP ho_v0 dd_SH_secondBoiler_12 ?_
    refine lv_iload_n hx hb dd_SH_secondBoiler_15 rfl (lv_at hl 1 rfl) ?_
    refine lv_iconst (v := 3) hx hb dd_SH_secondBoiler_16 (by decide) ?_
    refine lv_imul hx hb dd_SH_secondBoiler_17 ?_
    refine lv_iconst (v := 2) hx hb dd_SH_secondBoiler_18 (by decide) ?_
    refine lv_iadd hx hb dd_SH_secondBoiler_19 ?_
    obtain ⟨h_5, hf⟩ := of_ifb hf
    refine raI C0 hP (tp_4_6 ho_v0) h_5 dd_SH_secondBoiler_20 ?_
    refine lv_goto (tgt := 25) hx hb dd_SH_secondBoiler_21 (by decide) ?_
    exact rrI C0 hP hS dd_SH_secondBoiler_25 hf
theorem cc_SH_secondBoiler {l : Launch} {E : Ev} {A : Nat → Prop} {ad : Nat → Nat} (hap : Ap ad ixC A) {x x' : St} {v0 : Nat} {v1 : Int32} {r : Int32} (ho_v0 : isO ixC v0 4) (hf : ff_SH_secondBoiler x v0 v1 = some (r, x')) : Met l yy_SH_secondBoiler (Cond.code yy_SH_secondBoiler bb_SH_secondBoiler 2 (some .int) :: gtb) rm_SH_secondBoiler (va_Pc [.ref (ad v0), .int v1] (PB E A ad ixC x)) (QX E ad ixC A (some (.int r)) x') 0 0 A := by
  exact enter (by decide) (Nat.le_of_ble_eq_true rfl) (fun p e s m below meth c ls C0 hP hS hl => ww_SH_secondBoiler C0 hap ho_v0 hf hP hS hl)
abbrev rm_SH_firstWeakDay : Room := { frames := 1, cells := 0, slots := 0, locals := 21 }
theorem dd_SH_firstWeakDay_0 : decode bb_SH_firstWeakDay 0 = .ok (.aload_n 0, 1) := by decide +kernel
theorem dd_SH_firstWeakDay_1 : decode bb_SH_firstWeakDay 1 = .ok (.ifnonnull 5, 3) := by decide +kernel
theorem dd_SH_firstWeakDay_4 : decode bb_SH_firstWeakDay 4 = .ok (.iload_n 3, 1) := by decide +kernel
theorem dd_SH_firstWeakDay_5 : decode bb_SH_firstWeakDay 5 = .ok (.ireturn, 1) := by decide +kernel
theorem dd_SH_firstWeakDay_6 : decode bb_SH_firstWeakDay 6 = .ok (.iload_n 3, 1) := by decide +kernel
theorem dd_SH_firstWeakDay_7 : decode bb_SH_firstWeakDay 7 = .ok (.iconst 0, 1) := by decide +kernel
theorem dd_SH_firstWeakDay_8 : decode bb_SH_firstWeakDay 8 = .ok (.invokestatic 126, 3) := by decide +kernel
theorem dd_SH_firstWeakDay_11 : decode bb_SH_firstWeakDay 11 = .ok (.istore 5, 2) := by decide +kernel
theorem dd_SH_firstWeakDay_13 : decode bb_SH_firstWeakDay 13 = .ok (.iload 5, 2) := by decide +kernel
theorem dd_SH_firstWeakDay_15 : decode bb_SH_firstWeakDay 15 = .ok (.iload 4, 2) := by decide +kernel
theorem dd_SH_firstWeakDay_17 : decode bb_SH_firstWeakDay 17 = .ok (.if_icmp .gt 49, 3) := by decide +kernel
theorem dd_SH_firstWeakDay_20 : decode bb_SH_firstWeakDay 20 = .ok (.iload 5, 2) := by decide +kernel
theorem dd_SH_firstWeakDay_22 : decode bb_SH_firstWeakDay 22 = .ok (.bipush 100, 2) := by decide +kernel
theorem dd_SH_firstWeakDay_24 : decode bb_SH_firstWeakDay 24 = .ok (.if_icmp .ge 42, 3) := by decide +kernel
theorem dd_SH_firstWeakDay_27 : decode bb_SH_firstWeakDay 27 = .ok (.aload_n 1, 1) := by decide +kernel
theorem dd_SH_firstWeakDay_28 : decode bb_SH_firstWeakDay 28 = .ok (.ifnonnull 10, 3) := by decide +kernel
theorem dd_SH_firstWeakDay_31 : decode bb_SH_firstWeakDay 31 = .ok (.aload_n 0, 1) := by decide +kernel
theorem dd_SH_firstWeakDay_32 : decode bb_SH_firstWeakDay 32 = .ok (.iload 5, 2) := by decide +kernel
theorem dd_SH_firstWeakDay_34 : decode bb_SH_firstWeakDay 34 = .ok (.iaload, 1) := by decide +kernel
theorem dd_SH_firstWeakDay_35 : decode bb_SH_firstWeakDay 35 = .ok (.goto 14, 3) := by decide +kernel
theorem dd_SH_firstWeakDay_38 : decode bb_SH_firstWeakDay 38 = .ok (.aload_n 0, 1) := by decide +kernel
theorem dd_SH_firstWeakDay_39 : decode bb_SH_firstWeakDay 39 = .ok (.iload 5, 2) := by decide +kernel
theorem dd_SH_firstWeakDay_41 : decode bb_SH_firstWeakDay 41 = .ok (.iaload, 1) := by decide +kernel
theorem dd_SH_firstWeakDay_42 : decode bb_SH_firstWeakDay 42 = .ok (.aload_n 1, 1) := by decide +kernel
theorem dd_SH_firstWeakDay_43 : decode bb_SH_firstWeakDay 43 = .ok (.iload 5, 2) := by decide +kernel
theorem dd_SH_firstWeakDay_45 : decode bb_SH_firstWeakDay 45 = .ok (.iaload, 1) := by decide +kernel
theorem dd_SH_firstWeakDay_46 : decode bb_SH_firstWeakDay 46 = .ok (.iadd, 1) := by decide +kernel
theorem dd_SH_firstWeakDay_47 : decode bb_SH_firstWeakDay 47 = .ok (.iconst 2, 1) := by decide +kernel
theorem dd_SH_firstWeakDay_48 : decode bb_SH_firstWeakDay 48 = .ok (.idiv, 1) := by decide +kernel
theorem dd_SH_firstWeakDay_49 : decode bb_SH_firstWeakDay 49 = .ok (.istore 6, 2) := by decide +kernel
theorem dd_SH_firstWeakDay_51 : decode bb_SH_firstWeakDay 51 = .ok (.iload 6, 2) := by decide +kernel
theorem dd_SH_firstWeakDay_53 : decode bb_SH_firstWeakDay 53 = .ok (.iload_n 2, 1) := by decide +kernel
theorem dd_SH_firstWeakDay_54 : decode bb_SH_firstWeakDay 54 = .ok (.if_icmp .ge 6, 3) := by decide +kernel
theorem dd_SH_firstWeakDay_57 : decode bb_SH_firstWeakDay 57 = .ok (.iload 5, 2) := by decide +kernel
theorem dd_SH_firstWeakDay_59 : decode bb_SH_firstWeakDay 59 = .ok (.ireturn, 1) := by decide +kernel
theorem dd_SH_firstWeakDay_60 : decode bb_SH_firstWeakDay 60 = .ok (.iinc 5 1, 3) := by decide +kernel
theorem dd_SH_firstWeakDay_63 : decode bb_SH_firstWeakDay 63 = .ok (.goto (-50), 3) := by decide +kernel
theorem dd_SH_firstWeakDay_66 : decode bb_SH_firstWeakDay 66 = .ok (.iload 4, 2) := by decide +kernel
theorem dd_SH_firstWeakDay_68 : decode bb_SH_firstWeakDay 68 = .ok (.iconst 1, 1) := by decide +kernel
theorem dd_SH_firstWeakDay_69 : decode bb_SH_firstWeakDay 69 = .ok (.iadd, 1) := by decide +kernel
theorem dd_SH_firstWeakDay_70 : decode bb_SH_firstWeakDay 70 = .ok (.ireturn, 1) := by decide +kernel
def ff_SH_firstWeakDay_49 (k_13 : St → Nat → Option Nat → Int32 → Int32 → Int32 → Option (Int32 × St)) (x : St) (v0 : Nat) (v1 : Option Nat) (v2 : Int32) (v4 : Int32) (v5 : Int32) (w0 : Int32) : Option (Int32 × St) := (if v2 ≤ w0 then k_13 x v0 v1 v2 v4 (v5 + 1) else some (v5, x))
def ff_SH_firstWeakDay_13  : Nat → St → Nat → Option Nat → Int32 → Int32 → Int32 → Option (Int32 × St)
  | 0, _, _, _, _, _, _ => none
  | n + 1, x, v0, v1, v2, v4, v5 => (if v4 < v5 then some (v4 + 1, x) else (if 100 ≤ v5 then some (v4 + 1, x) else (qc v1 ((if ixb v5 (ln v0) = true then ff_SH_firstWeakDay_49 (ff_SH_firstWeakDay_13 n) x v0 none v2 v4 v5 (gi x v0 (ix v5)) else none)) (fun q_4 => (if ixb v5 (ln v0) = true then (if ixb v5 (ln q_4) = true then ff_SH_firstWeakDay_49 (ff_SH_firstWeakDay_13 n) x v0 (some q_4) v2 v4 v5 (((gi x v0 (ix v5)) + (gi x q_4 (ix v5))) / 2) else none) else none)))))
def ff_SH_firstWeakDay  (x : St) (v0 : Option Nat) (v1 : Option Nat) (v2 : Int32) (v3 : Int32) (v4 : Int32) : Option (Int32 × St) := (qc v0 (some (v3, x)) (fun q_1 => ff_SH_firstWeakDay_13 FU x q_1 v1 v2 v4 (imax v3 0)))
set_option maxHeartbeats 4000000 in
set_option maxRecDepth 100000 in
theorem ww_SH_firstWeakDay_49 {p : Program} {l : Launch} {e : Env} {s : State} {m : MethodId} {args : Array Value} {below : List Frame} {meth : Method} {c : Code} {E : Ev} {A : Nat → Prop} {ad : Nat → Nat} {r : Int32} {x' : St} (C0 : Cx E A RSH bb_SH_firstWeakDay 7 (some .int) p s m args meth c) (hap : Ap ad ixC A) {k_13 : St → Nat → Option Nat → Int32 → Int32 → Int32 → Option (Int32 × St)} (hk_13 : ∀ (x : St) (v0 : Nat) (v1 : Option Nat) (v2 : Int32) (v4 : Int32) (v5 : Int32), (isO ixC v0 20) → (∀ q, v1 = some q → isO ixC q 20) → k_13 x v0 v1 v2 v4 v5 = some (r, x') → ∀ (H : Heap) (locs : List Loc) (ls : Array Slot), Wd E ad ixC x H → va_S A s.heap H locs → lv_has ls 7 [(0, .ref (ad v0)), (1, va_re ad v1), (2, .int v2), (4, .int v4), (5, .int v5)] → W p l e rm_SH_firstWeakDay s m args below meth c H locs 0 0 (MQ below (QX E ad ixC A (some (.int r)) x') args s 0 0 A) (F0 m 13 ls [])) {x : St} {v0 : Nat} {v1 : Option Nat} {v2 : Int32} {v4 : Int32} {v5 : Int32} {w0 : Int32} (ho_v0 : isO ixC v0 20) (ho_v1 : ∀ q, v1 = some q → isO ixC q 20) (hf : ff_SH_firstWeakDay_49 k_13 x v0 v1 v2 v4 v5 w0 = some (r, x')) {H : Heap} {locs : List Loc} {ls : Array Slot} (hP : Wd E ad ixC x H) (hS : va_S A s.heap H locs) (hl : lv_has ls 7 [(0, .ref (ad v0)), (1, va_re ad v1), (2, .int v2), (4, .int v4), (5, .int v5)]) : W p l e rm_SH_firstWeakDay s m args below meth c H locs 0 0 (MQ below (QX E ad ixC A (some (.int r)) x') args s 0 0 A) (F0 m 49 ls [.int w0]) := by
  obtain ⟨hx, hb, hml, hr, hown, hts, hlk, hK⟩ := id C0
  have hf : (if v2 ≤ w0 then k_13 x v0 v1 v2 v4 (v5 + 1) else some (v5, x)) = some (r, x') := hf
  refine lv_istore (lv' := [(6, .int w0), (0, .ref (ad v0)), (1, va_re ad v1), (2, .int v2), (4, .int v4), (5, .int v5)]) hx hb dd_SH_firstWeakDay_49 hl (by decide) (by simp only [List.filter_cons, List.filter_nil, cat_re]; rfl) (fun ls hl => ?_)
  refine lv_iload hx hb dd_SH_firstWeakDay_51 (lv_at hl 0 rfl) ?_
  refine lv_iload_n hx hb dd_SH_firstWeakDay_53 rfl (lv_at hl 3 rfl) ?_
  refine lv_icmp_ge (tgt := 60) hx hb dd_SH_firstWeakDay_54 (by decide) (fun h_6 => ?_) (fun h_6 => ?_)
  · have hf := (if_pos h_6).symm.trans hf
    refine lv_iinc (v := v5 + 1) (lv' := [(5, .int (v5 + 1)), (6, .int w0), (0, .ref (ad v0)), (1, va_re ad v1), (2, .int v2), (4, .int v4)]) hx hb dd_SH_firstWeakDay_60 hl (k := 5) rfl rfl (by decide) (by simp only [List.filter_cons, List.filter_nil, cat_re]; rfl) (fun ls hl => ?_)
    refine lv_goto (tgt := 13) hx hb dd_SH_firstWeakDay_63 (by decide) ?_
    exact hk_13 x v0 v1 v2 v4 (v5 + 1) ho_v0 ho_v1 hf _ _ _ hP hS (lv_sub hl [2, 3, 4, 5, 0] rfl)
  · have hf := (if_neg h_6).symm.trans hf
    refine lv_iload hx hb dd_SH_firstWeakDay_57 (lv_at hl 5 rfl) ?_
    exact rrI C0 hP hS dd_SH_firstWeakDay_59 hf
set_option maxHeartbeats 4000000 in
set_option maxRecDepth 100000 in
theorem ww_SH_firstWeakDay_13 {p : Program} {l : Launch} {e : Env} {s : State} {m : MethodId} {args : Array Value} {below : List Frame} {meth : Method} {c : Code} {E : Ev} {A : Nat → Prop} {ad : Nat → Nat} {r : Int32} {x' : St} (C0 : Cx E A RSH bb_SH_firstWeakDay 7 (some .int) p s m args meth c) (hap : Ap ad ixC A)  : ∀ (n : Nat), ∀ (x : St) (v0 : Nat) (v1 : Option Nat) (v2 : Int32) (v4 : Int32) (v5 : Int32), (isO ixC v0 20) → (∀ q, v1 = some q → isO ixC q 20) → ff_SH_firstWeakDay_13 n x v0 v1 v2 v4 v5 = some (r, x') → ∀ (H : Heap) (locs : List Loc) (ls : Array Slot), Wd E ad ixC x H → va_S A s.heap H locs → lv_has ls 7 [(0, .ref (ad v0)), (1, va_re ad v1), (2, .int v2), (4, .int v4), (5, .int v5)] → W p l e rm_SH_firstWeakDay s m args below meth c H locs 0 0 (MQ below (QX E ad ixC A (some (.int r)) x') args s 0 0 A) (F0 m 13 ls []) := by
  obtain ⟨hx, hb, hml, hr, hown, hts, hlk, hK⟩ := id C0
  intro n
  induction n with
  | zero => intro x v0 v1 v2 v4 v5 ho_v0 ho_v1 hf; exact of_no hf
  | succ n ih =>
    intro x v0 v1 v2 v4 v5 ho_v0 ho_v1 hf H locs ls hP hS hl
    have hf : (if v4 < v5 then some (v4 + 1, x) else (if 100 ≤ v5 then some (v4 + 1, x) else (qc v1 ((if ixb v5 (ln v0) = true then ff_SH_firstWeakDay_49 (ff_SH_firstWeakDay_13 n) x v0 none v2 v4 v5 (gi x v0 (ix v5)) else none)) (fun q_4 => (if ixb v5 (ln v0) = true then (if ixb v5 (ln q_4) = true then ff_SH_firstWeakDay_49 (ff_SH_firstWeakDay_13 n) x v0 (some q_4) v2 v4 v5 (((gi x v0 (ix v5)) + (gi x q_4 (ix v5))) / 2) else none) else none))))) = some (r, x') := hf
    refine lv_iload hx hb dd_SH_firstWeakDay_13 (lv_at hl 4 rfl) ?_
    refine lv_iload hx hb dd_SH_firstWeakDay_15 (lv_at hl 3 rfl) ?_
    refine lv_icmp_gt (tgt := 66) hx hb dd_SH_firstWeakDay_17 (by decide) (fun h_2 => ?_) (fun h_2 => ?_)
    · have hf := (if_pos h_2).symm.trans hf
      refine lv_iload hx hb dd_SH_firstWeakDay_66 (lv_at hl 3 rfl) ?_
      refine lv_iconst (v := 1) hx hb dd_SH_firstWeakDay_68 (by decide) ?_
      refine lv_iadd hx hb dd_SH_firstWeakDay_69 ?_
      exact rrI C0 hP hS dd_SH_firstWeakDay_70 hf
    · have hf := (if_neg h_2).symm.trans hf
      refine lv_iload hx hb dd_SH_firstWeakDay_20 (lv_at hl 4 rfl) ?_
      refine lv_bipush (v := 100) hx hb dd_SH_firstWeakDay_22 (by decide) ?_
      refine lv_icmp_ge (tgt := 66) hx hb dd_SH_firstWeakDay_24 (by decide) (fun h_3 => ?_) (fun h_3 => ?_)
      · have hf := (if_pos h_3).symm.trans hf
        refine lv_iload hx hb dd_SH_firstWeakDay_66 (lv_at hl 3 rfl) ?_
        refine lv_iconst (v := 1) hx hb dd_SH_firstWeakDay_68 (by decide) ?_
        refine lv_iadd hx hb dd_SH_firstWeakDay_69 ?_
        exact rrI C0 hP hS dd_SH_firstWeakDay_70 hf
      · have hf := (if_neg h_3).symm.trans hf
        refine raQn hx hb dd_SH_firstWeakDay_27 rfl (lv_at hl 1 rfl) ?_
        rcases v1 with _ | q_4
        · have hl : lv_has ls 7 [(0, .ref (ad v0)), (1, .null), (2, .int v2), (4, .int v4), (5, .int v5)] := hl
          have hf : (if ixb v5 (ln v0) = true then ff_SH_firstWeakDay_49 (ff_SH_firstWeakDay_13 n) x v0 none v2 v4 v5 (gi x v0 (ix v5)) else none) = some (r, x') := hf
          refine lv_ifnonnullN hx hb dd_SH_firstWeakDay_28 ?_
          refine lv_aload_n hx hb dd_SH_firstWeakDay_31 rfl (lv_at hl 0 rfl) ?_
          refine lv_iload hx hb dd_SH_firstWeakDay_32 (lv_at hl 4 rfl) ?_
          obtain ⟨h_5, hf⟩ := of_ifb hf
          refine raI C0 hP ho_v0 h_5 dd_SH_firstWeakDay_34 ?_
          refine lv_goto (tgt := 49) hx hb dd_SH_firstWeakDay_35 (by decide) ?_
          exact ww_SH_firstWeakDay_49 C0 hap ih ho_v0 (fun _ h => by cases h) hf hP hS (lv_sub hl [0, 1, 2, 3, 4] rfl)
        · have hl : lv_has ls 7 [(0, .ref (ad v0)), (1, .ref (ad q_4)), (2, .int v2), (4, .int v4), (5, .int v5)] := hl
          have hf : (if ixb v5 (ln v0) = true then (if ixb v5 (ln q_4) = true then ff_SH_firstWeakDay_49 (ff_SH_firstWeakDay_13 n) x v0 (some q_4) v2 v4 v5 (((gi x v0 (ix v5)) + (gi x q_4 (ix v5))) / 2) else none) else none) = some (r, x') := hf
          refine lv_ifnonnull (tgt := 38) hx hb dd_SH_firstWeakDay_28 (by decide) ?_
          refine lv_aload_n hx hb dd_SH_firstWeakDay_38 rfl (lv_at hl 0 rfl) ?_
          refine lv_iload hx hb dd_SH_firstWeakDay_39 (lv_at hl 4 rfl) ?_
          obtain ⟨h_7, hf⟩ := of_ifb hf
          refine raI C0 hP ho_v0 h_7 dd_SH_firstWeakDay_41 ?_
          refine lv_aload_n hx hb dd_SH_firstWeakDay_42 rfl (lv_at hl 1 rfl) ?_
          refine lv_iload hx hb dd_SH_firstWeakDay_43 (lv_at hl 4 rfl) ?_
          obtain ⟨h_8, hf⟩ := of_ifb hf
          refine raI C0 hP (ho_v1 q_4 rfl) h_8 dd_SH_firstWeakDay_45 ?_
          refine lv_iadd hx hb dd_SH_firstWeakDay_46 ?_
          refine lv_iconst (v := 2) hx hb dd_SH_firstWeakDay_47 (by decide) ?_
          refine lv_idiv hx hb dd_SH_firstWeakDay_48 (by decide) ?_
          exact ww_SH_firstWeakDay_49 C0 hap ih ho_v0 (fun _ h => Option.some.inj h ▸ (ho_v1 q_4 rfl)) hf hP hS (lv_sub hl [0, 1, 2, 3, 4] rfl)
set_option maxHeartbeats 4000000 in
set_option maxRecDepth 100000 in
theorem ww_SH_firstWeakDay {p : Program} {l : Launch} {e : Env} {s : State} {m : MethodId} {args : Array Value} {below : List Frame} {meth : Method} {c : Code} {E : Ev} {A : Nat → Prop} {ad : Nat → Nat} {r : Int32} {x' : St} (C0 : Cx E A RSH bb_SH_firstWeakDay 7 (some .int) p s m args meth c) (hap : Ap ad ixC A)  {x : St} {v0 : Option Nat} {v1 : Option Nat} {v2 : Int32} {v3 : Int32} {v4 : Int32} (ho_v0 : ∀ q, v0 = some q → isO ixC q 20) (ho_v1 : ∀ q, v1 = some q → isO ixC q 20) (hf : ff_SH_firstWeakDay x v0 v1 v2 v3 v4 = some (r, x')) {H : Heap} {locs : List Loc} {ls : Array Slot} (hP : Wd E ad ixC x H) (hS : va_S A s.heap H locs) (hl : lv_has ls 7 [(0, va_re ad v0), (1, va_re ad v1), (2, .int v2), (3, .int v3), (4, .int v4)]) : W p l e rm_SH_firstWeakDay s m args below meth c H locs 0 0 (MQ below (QX E ad ixC A (some (.int r)) x') args s 0 0 A) (F0 m 0 ls []) := by
  obtain ⟨hx, hb, hml, hr, hown, hts, hlk, hK⟩ := id C0
  have hf : (qc v0 (some (v3, x)) (fun q_1 => ff_SH_firstWeakDay_13 FU x q_1 v1 v2 v4 (imax v3 0))) = some (r, x') := hf
  refine raQn hx hb dd_SH_firstWeakDay_0 rfl (lv_at hl 0 rfl) ?_
  rcases v0 with _ | q_1
  · have hl : lv_has ls 7 [(0, .null), (1, va_re ad v1), (2, .int v2), (3, .int v3), (4, .int v4)] := hl
    have hf : some (v3, x) = some (r, x') := hf
    refine lv_ifnonnullN hx hb dd_SH_firstWeakDay_1 ?_
    refine lv_iload_n hx hb dd_SH_firstWeakDay_4 rfl (lv_at hl 3 rfl) ?_
    exact rrI C0 hP hS dd_SH_firstWeakDay_5 hf
  · have hl : lv_has ls 7 [(0, .ref (ad q_1)), (1, va_re ad v1), (2, .int v2), (3, .int v3), (4, .int v4)] := hl
    have hf : ff_SH_firstWeakDay_13 FU x q_1 v1 v2 v4 (imax v3 0) = some (r, x') := hf
    refine lv_ifnonnull (tgt := 6) hx hb dd_SH_firstWeakDay_1 (by decide) ?_
    refine lv_iload_n hx hb dd_SH_firstWeakDay_6 rfl (lv_at hl 3 rfl) ?_
    refine lv_iconst (v := 0) hx hb dd_SH_firstWeakDay_7 (by decide) ?_
    refine rmax C0 hl.1 gw_m_SH_126 (Nat.le_of_ble_eq_true rfl) ⟨Nat.le_of_ble_eq_true rfl, Nat.le_of_ble_eq_true rfl⟩ ⟨Nat.le_refl _, Nat.le_refl _⟩ dd_SH_firstWeakDay_8 ?_
    refine lv_istore (lv' := [(5, .int (imax v3 0)), (0, .ref (ad q_1)), (1, va_re ad v1), (2, .int v2), (3, .int v3), (4, .int v4)]) hx hb dd_SH_firstWeakDay_11 hl (by decide) (by simp only [List.filter_cons, List.filter_nil, cat_re]; rfl) (fun ls hl => ?_)
    exact ww_SH_firstWeakDay_13 C0 hap  FU x q_1 v1 v2 v4 (imax v3 0) (ho_v0 q_1 rfl) ho_v1 hf _ _ _ hP hS (lv_sub hl [1, 2, 3, 5, 0] rfl)
theorem cc_SH_firstWeakDay {l : Launch} {E : Ev} {A : Nat → Prop} {ad : Nat → Nat} (hap : Ap ad ixC A) {x x' : St} {v0 : Option Nat} {v1 : Option Nat} {v2 : Int32} {v3 : Int32} {v4 : Int32} {r : Int32} (ho_v0 : ∀ q, v0 = some q → isO ixC q 20) (ho_v1 : ∀ q, v1 = some q → isO ixC q 20) (hf : ff_SH_firstWeakDay x v0 v1 v2 v3 v4 = some (r, x')) : Met l yy_SH_firstWeakDay (Cond.code yy_SH_firstWeakDay bb_SH_firstWeakDay 7 (some .int) :: gtb) rm_SH_firstWeakDay (va_Pc [va_re ad v0, va_re ad v1, .int v2, .int v3, .int v4] (PB E A ad ixC x)) (QX E ad ixC A (some (.int r)) x') 0 0 A := by
  cases v0 <;> cases v1 <;> exact enter (by decide) (Nat.le_of_ble_eq_true rfl) (fun p e s m below meth c ls C0 hP hS hl => ww_SH_firstWeakDay C0 hap ho_v0 ho_v1 hf hP hS hl)
theorem cl_SH_108 {p : Program} {l : Launch} {e : Env} {R : Room} {s : State} {m : MethodId} {args : Array Value} {below : List Frame} {meth : Method} {c : Code} {H : Heap} {locs : List Loc} {cells slots : Nat} {Q : State → Prop} {cc : ByteArray} {pc : Nat} {ls : Array Slot} {rest : List Value} {E : Ev} {A : Nat → Prop} {ad : Nat → Nat} {nL : Nat} {rt : Option FieldType} (C0 : Cx E A RSH cc nL rt p s m args meth c) (hap : Ap ad ixC A) {x x' : St} {v0 : Nat} {v1 : Int32} {r : Int32} (ho_v0 : isO ixC v0 4) (hc : ff_SH_boiledOn x v0 v1 = some (r, x')) (hP : Wd E ad ixC x H) (hS : va_S A s.heap H locs) (hR : rm_SH_boiledOn.frames + 1 ≤ R.frames ∧ 8 + (2 + 11) + rm_SH_boiledOn.locals ≤ R.locals) (hls : ls.size = nL) (hroom : (rest.map fun v => v.category).sum ≤ 8) (hdg : decode cc pc = .ok (.invokevirtual 108, 3)) (hf : cells ≤ R.cells ∧ slots ≤ R.slots) (kk : ∀ H1 locs1, Wd E ad ixC x' H1 → va_S A s.heap H1 locs1 → W p l e R s m args below meth c H1 locs1 cells slots Q (F0 m (pc + 3) ls (.int r :: rest))) : W p l e R s m args below meth c H locs cells slots Q (F0 m pc ls (.int v1 :: .ref (ad v0) :: rest)) :=
  rcV (n := 1) C0 (cc_SH_boiledOn hap ho_v0 hc) hP hS ho_v0 vcl_4 (by decide) gw_code_SH_boiledOn gw_m_SH_108 gw_inst_SH_boiledOn gw_sel_SH_boiledOn gw_ini_SH rfl rfl (by decide +kernel) rfl hR hls rfl hroom hdg hf (fun H1 locs1 a _ _ b => kk H1 locs1 a b)
theorem cl_SH_112 {p : Program} {l : Launch} {e : Env} {R : Room} {s : State} {m : MethodId} {args : Array Value} {below : List Frame} {meth : Method} {c : Code} {H : Heap} {locs : List Loc} {cells slots : Nat} {Q : State → Prop} {cc : ByteArray} {pc : Nat} {ls : Array Slot} {rest : List Value} {E : Ev} {A : Nat → Prop} {ad : Nat → Nat} {nL : Nat} {rt : Option FieldType} (C0 : Cx E A RSH cc nL rt p s m args meth c) (hap : Ap ad ixC A) {x x' : St} {v0 : Nat} {v1 : Int32} {r : Int32} (ho_v0 : isO ixC v0 4) (hc : ff_SH_firstBoiler x v0 v1 = some (r, x')) (hP : Wd E ad ixC x H) (hS : va_S A s.heap H locs) (hR : rm_SH_firstBoiler.frames + 1 ≤ R.frames ∧ 8 + (2 + 11) + rm_SH_firstBoiler.locals ≤ R.locals) (hls : ls.size = nL) (hroom : (rest.map fun v => v.category).sum ≤ 8) (hdg : decode cc pc = .ok (.invokevirtual 112, 3)) (hf : cells ≤ R.cells ∧ slots ≤ R.slots) (kk : ∀ H1 locs1, Wd E ad ixC x' H1 → va_S A s.heap H1 locs1 → W p l e R s m args below meth c H1 locs1 cells slots Q (F0 m (pc + 3) ls (.int r :: rest))) : W p l e R s m args below meth c H locs cells slots Q (F0 m pc ls (.int v1 :: .ref (ad v0) :: rest)) :=
  rcV (n := 1) C0 (cc_SH_firstBoiler hap ho_v0 hc) hP hS ho_v0 vcl_4 (by decide) gw_code_SH_firstBoiler gw_m_SH_112 gw_inst_SH_firstBoiler gw_sel_SH_firstBoiler gw_ini_SH rfl rfl (by decide +kernel) rfl hR hls rfl hroom hdg hf (fun H1 locs1 a _ _ b => kk H1 locs1 a b)
theorem cl_SH_115 {p : Program} {l : Launch} {e : Env} {R : Room} {s : State} {m : MethodId} {args : Array Value} {below : List Frame} {meth : Method} {c : Code} {H : Heap} {locs : List Loc} {cells slots : Nat} {Q : State → Prop} {cc : ByteArray} {pc : Nat} {ls : Array Slot} {rest : List Value} {E : Ev} {A : Nat → Prop} {ad : Nat → Nat} {nL : Nat} {rt : Option FieldType} (C0 : Cx E A RSH cc nL rt p s m args meth c) (hap : Ap ad ixC A) {x x' : St} {v0 : Nat} {v1 : Int32} {r : Option Nat} (ho_v0 : isO ixC v0 4) (hc : ff_SH_griefsOf x v0 v1 = some (r, x')) (hP : Wd E ad ixC x H) (hS : va_S A s.heap H locs) (hR : rm_SH_griefsOf.frames + 1 ≤ R.frames ∧ 8 + (2 + 11) + rm_SH_griefsOf.locals ≤ R.locals) (hls : ls.size = nL) (hroom : (rest.map fun v => v.category).sum ≤ 8) (hdg : decode cc pc = .ok (.invokevirtual 115, 3)) (hf : cells ≤ R.cells ∧ slots ≤ R.slots) (kk : ∀ H1 locs1, Wd E ad ixC x' H1 → va_S A s.heap H1 locs1 → W p l e R s m args below meth c H1 locs1 cells slots Q (F0 m (pc + 3) ls (va_re ad r :: rest))) : W p l e R s m args below meth c H locs cells slots Q (F0 m pc ls (.int v1 :: .ref (ad v0) :: rest)) :=
  rcV (n := 1) C0 (cc_SH_griefsOf hap ho_v0 hc) hP hS ho_v0 vcl_4 (by decide) gw_code_SH_griefsOf gw_m_SH_115 gw_inst_SH_griefsOf gw_sel_SH_griefsOf gw_ini_SH rfl rfl (by decide +kernel) rfl hR hls rfl hroom hdg hf (fun H1 locs1 a _ _ b => kk H1 locs1 a b)
theorem cl_SH_119 {p : Program} {l : Launch} {e : Env} {R : Room} {s : State} {m : MethodId} {args : Array Value} {below : List Frame} {meth : Method} {c : Code} {H : Heap} {locs : List Loc} {cells slots : Nat} {Q : State → Prop} {cc : ByteArray} {pc : Nat} {ls : Array Slot} {rest : List Value} {E : Ev} {A : Nat → Prop} {ad : Nat → Nat} {nL : Nat} {rt : Option FieldType} (C0 : Cx E A RSH cc nL rt p s m args meth c) (hap : Ap ad ixC A) {x x' : St} {v0 : Nat} {v1 : Int32} {r : Int32} (ho_v0 : isO ixC v0 4) (hc : ff_SH_secondBoiler x v0 v1 = some (r, x')) (hP : Wd E ad ixC x H) (hS : va_S A s.heap H locs) (hR : rm_SH_secondBoiler.frames + 1 ≤ R.frames ∧ 8 + (2 + 11) + rm_SH_secondBoiler.locals ≤ R.locals) (hls : ls.size = nL) (hroom : (rest.map fun v => v.category).sum ≤ 8) (hdg : decode cc pc = .ok (.invokevirtual 119, 3)) (hf : cells ≤ R.cells ∧ slots ≤ R.slots) (kk : ∀ H1 locs1, Wd E ad ixC x' H1 → va_S A s.heap H1 locs1 → W p l e R s m args below meth c H1 locs1 cells slots Q (F0 m (pc + 3) ls (.int r :: rest))) : W p l e R s m args below meth c H locs cells slots Q (F0 m pc ls (.int v1 :: .ref (ad v0) :: rest)) :=
  rcV (n := 1) C0 (cc_SH_secondBoiler hap ho_v0 hc) hP hS ho_v0 vcl_4 (by decide) gw_code_SH_secondBoiler gw_m_SH_119 gw_inst_SH_secondBoiler gw_sel_SH_secondBoiler gw_ini_SH rfl rfl (by decide +kernel) rfl hR hls rfl hroom hdg hf (fun H1 locs1 a _ _ b => kk H1 locs1 a b)
theorem cl_SH_122 {p : Program} {l : Launch} {e : Env} {R : Room} {s : State} {m : MethodId} {args : Array Value} {below : List Frame} {meth : Method} {c : Code} {H : Heap} {locs : List Loc} {cells slots : Nat} {Q : State → Prop} {cc : ByteArray} {pc : Nat} {ls : Array Slot} {rest : List Value} {E : Ev} {A : Nat → Prop} {ad : Nat → Nat} {nL : Nat} {rt : Option FieldType} (C0 : Cx E A RSH cc nL rt p s m args meth c) (hap : Ap ad ixC A) {x x' : St} {v0 : Option Nat} {v1 : Option Nat} {v2 : Int32} {v3 : Int32} {v4 : Int32} {r : Int32} (ho_v0 : ∀ q, v0 = some q → isO ixC q 20) (ho_v1 : ∀ q, v1 = some q → isO ixC q 20) (hc : ff_SH_firstWeakDay x v0 v1 v2 v3 v4 = some (r, x')) (hP : Wd E ad ixC x H) (hS : va_S A s.heap H locs) (hR : rm_SH_firstWeakDay.frames + 1 ≤ R.frames ∧ 8 + (7 + 11) + rm_SH_firstWeakDay.locals ≤ R.locals) (hls : ls.size = nL) (hroom : (rest.map fun v => v.category).sum ≤ 8) (hdg : decode cc pc = .ok (.invokestatic 122, 3)) (hf : cells ≤ R.cells ∧ slots ≤ R.slots) (kk : ∀ H1 locs1, Wd E ad ixC x' H1 → va_S A s.heap H1 locs1 → W p l e R s m args below meth c H1 locs1 cells slots Q (F0 m (pc + 3) ls (.int r :: rest))) : W p l e R s m args below meth c H locs cells slots Q (F0 m pc ls (.int v4 :: .int v3 :: .int v2 :: va_re ad v1 :: va_re ad v0 :: rest)) :=
  rcS (n := 5) C0 (cc_SH_firstWeakDay hap ho_v0 ho_v1 hc) hP hS gw_code_SH_firstWeakDay gw_m_SH_122 gw_static_SH_firstWeakDay gw_ini_SH rfl rfl (by decide +kernel) rfl hR hls rfl hroom hdg hf (fun H1 locs1 a _ _ b => kk H1 locs1 a b)
abbrev rm_SH_openingOf : Room := { frames := 2, cells := 0, slots := 0, locals := 47 }
theorem dd_SH_openingOf_0 : decode bb_SH_openingOf 0 = .ok (.aload_n 0, 1) := by decide +kernel
theorem dd_SH_openingOf_1 : decode bb_SH_openingOf 1 = .ok (.iload_n 1, 1) := by decide +kernel
theorem dd_SH_openingOf_2 : decode bb_SH_openingOf 2 = .ok (.invokevirtual 108, 3) := by decide +kernel
theorem dd_SH_openingOf_5 : decode bb_SH_openingOf 5 = .ok (.istore_n 2, 1) := by decide +kernel
theorem dd_SH_openingOf_6 : decode bb_SH_openingOf 6 = .ok (.iload_n 2, 1) := by decide +kernel
theorem dd_SH_openingOf_7 : decode bb_SH_openingOf 7 = .ok (.iconst (-1), 1) := by decide +kernel
theorem dd_SH_openingOf_8 : decode bb_SH_openingOf 8 = .ok (.if_icmp .ne 5, 3) := by decide +kernel
theorem dd_SH_openingOf_11 : decode bb_SH_openingOf 11 = .ok (.iconst (-1), 1) := by decide +kernel
theorem dd_SH_openingOf_12 : decode bb_SH_openingOf 12 = .ok (.ireturn, 1) := by decide +kernel
theorem dd_SH_openingOf_13 : decode bb_SH_openingOf 13 = .ok (.aload_n 0, 1) := by decide +kernel
theorem dd_SH_openingOf_14 : decode bb_SH_openingOf 14 = .ok (.aload_n 0, 1) := by decide +kernel
theorem dd_SH_openingOf_15 : decode bb_SH_openingOf 15 = .ok (.iload_n 1, 1) := by decide +kernel
theorem dd_SH_openingOf_16 : decode bb_SH_openingOf 16 = .ok (.invokevirtual 112, 3) := by decide +kernel
theorem dd_SH_openingOf_19 : decode bb_SH_openingOf 19 = .ok (.invokevirtual 115, 3) := by decide +kernel
theorem dd_SH_openingOf_22 : decode bb_SH_openingOf 22 = .ok (.astore_n 3, 1) := by decide +kernel
theorem dd_SH_openingOf_23 : decode bb_SH_openingOf 23 = .ok (.aload_n 0, 1) := by decide +kernel
theorem dd_SH_openingOf_24 : decode bb_SH_openingOf 24 = .ok (.aload_n 0, 1) := by decide +kernel
theorem dd_SH_openingOf_25 : decode bb_SH_openingOf 25 = .ok (.iload_n 1, 1) := by decide +kernel
theorem dd_SH_openingOf_26 : decode bb_SH_openingOf 26 = .ok (.invokevirtual 119, 3) := by decide +kernel
theorem dd_SH_openingOf_29 : decode bb_SH_openingOf 29 = .ok (.invokevirtual 115, 3) := by decide +kernel
theorem dd_SH_openingOf_32 : decode bb_SH_openingOf 32 = .ok (.astore 4, 2) := by decide +kernel
theorem dd_SH_openingOf_34 : decode bb_SH_openingOf 34 = .ok (.aload_n 3, 1) := by decide +kernel
theorem dd_SH_openingOf_35 : decode bb_SH_openingOf 35 = .ok (.aload 4, 2) := by decide +kernel
theorem dd_SH_openingOf_37 : decode bb_SH_openingOf 37 = .ok (.aload_n 0, 1) := by decide +kernel
theorem dd_SH_openingOf_38 : decode bb_SH_openingOf 38 = .ok (.getfield 20, 3) := by decide +kernel
theorem dd_SH_openingOf_41 : decode bb_SH_openingOf 41 = .ok (.iload_n 1, 1) := by decide +kernel
theorem dd_SH_openingOf_42 : decode bb_SH_openingOf 42 = .ok (.iconst 0, 1) := by decide +kernel
theorem dd_SH_openingOf_43 : decode bb_SH_openingOf 43 = .ok (.invokevirtual 78, 3) := by decide +kernel
theorem dd_SH_openingOf_46 : decode bb_SH_openingOf 46 = .ok (.iload_n 2, 1) := by decide +kernel
theorem dd_SH_openingOf_47 : decode bb_SH_openingOf 47 = .ok (.bipush 99, 2) := by decide +kernel
theorem dd_SH_openingOf_49 : decode bb_SH_openingOf 49 = .ok (.invokestatic 122, 3) := by decide +kernel
theorem dd_SH_openingOf_52 : decode bb_SH_openingOf 52 = .ok (.ireturn, 1) := by decide +kernel
def ff_SH_openingOf  (x : St) (v0 : Nat) (v1 : Int32) : Option (Int32 × St) := bnd (ff_SH_boiledOn x v0 v1) (fun r_1 x_2 => (if r_1 = (-1) then some ((-1), x_2) else bnd (ff_SH_firstBoiler x_2 v0 v1) (fun r_5 x_6 => bnd (ff_SH_griefsOf x_6 v0 r_5) (fun r_8 x_9 => bnd (ff_SH_secondBoiler x_9 v0 v1) (fun r_11 x_12 => bnd (ff_SH_griefsOf x_12 v0 r_11) (fun r_14 x_15 => bnd (ff_LE_at x_15 (rf v0 1) v1 0) (fun r_17 x_18 => bnd (ff_SH_firstWeakDay x_18 r_8 r_14 r_17 r_1 99) (fun r_20 x_21 => some (r_20, x_21)))))))))
set_option maxHeartbeats 4000000 in
set_option maxRecDepth 100000 in
theorem ww_SH_openingOf {p : Program} {l : Launch} {e : Env} {s : State} {m : MethodId} {args : Array Value} {below : List Frame} {meth : Method} {c : Code} {E : Ev} {A : Nat → Prop} {ad : Nat → Nat} {r : Int32} {x' : St} (C0 : Cx E A RSH bb_SH_openingOf 5 (some .int) p s m args meth c) (hap : Ap ad ixC A)  {x : St} {v0 : Nat} {v1 : Int32} (ho_v0 : isO ixC v0 4) (hf : ff_SH_openingOf x v0 v1 = some (r, x')) {H : Heap} {locs : List Loc} {ls : Array Slot} (hP : Wd E ad ixC x H) (hS : va_S A s.heap H locs) (hl : lv_has ls 5 [(0, .ref (ad v0)), (1, .int v1)]) : W p l e rm_SH_openingOf s m args below meth c H locs 0 0 (MQ below (QX E ad ixC A (some (.int r)) x') args s 0 0 A) (F0 m 0 ls []) := by
  obtain ⟨hx, hb, hml, hr, hown, hts, hlk, hK⟩ := id C0
  have hf : bnd (ff_SH_boiledOn x v0 v1) (fun r_1 x_2 => (if r_1 = (-1) then some ((-1), x_2) else bnd (ff_SH_firstBoiler x_2 v0 v1) (fun r_5 x_6 => bnd (ff_SH_griefsOf x_6 v0 r_5) (fun r_8 x_9 => bnd (ff_SH_secondBoiler x_9 v0 v1) (fun r_11 x_12 => bnd (ff_SH_griefsOf x_12 v0 r_11) (fun r_14 x_15 => bnd (ff_LE_at x_15 (rf v0 1) v1 0) (fun r_17 x_18 => bnd (ff_SH_firstWeakDay x_18 r_8 r_14 r_17 r_1 99) (fun r_20 x_21 => some (r_20, x_21))))))))) = some (r, x') := hf
  refine lv_aload_n hx hb dd_SH_openingOf_0 rfl (lv_at hl 0 rfl) ?_
  refine lv_iload_n hx hb dd_SH_openingOf_1 rfl (lv_at hl 1 rfl) ?_
  obtain ⟨r_1, x_2, c_3, hf⟩ := of_bnd hf
  refine cl_SH_108 C0 hap ho_v0 c_3 hP hS ⟨Nat.le_of_ble_eq_true rfl, Nat.le_of_ble_eq_true rfl⟩ hl.1 (Nat.le_of_ble_eq_true rfl) dd_SH_openingOf_2 ⟨Nat.le_refl _, Nat.le_refl _⟩ (fun H locs hP hS => ?_)
  refine lv_istore_n (lv' := [(2, .int r_1), (0, .ref (ad v0)), (1, .int v1)]) hx hb dd_SH_openingOf_5 rfl hl (by decide) rfl (fun ls hl => ?_)
  refine lv_iload_n hx hb dd_SH_openingOf_6 rfl (lv_at hl 0 rfl) ?_
  refine lv_iconst (v := -1) hx hb dd_SH_openingOf_7 (by decide) ?_
  refine lv_icmp_ne (tgt := 13) hx hb dd_SH_openingOf_8 (by decide) (fun h_4 => ?_) (fun h_4 => ?_)
  · have hf := (if_neg h_4).symm.trans hf
    refine lv_aload_n hx hb dd_SH_openingOf_13 rfl (lv_at hl 1 rfl) ?_
    refine lv_aload_n hx hb dd_SH_openingOf_14 rfl (lv_at hl 1 rfl) ?_
    refine lv_iload_n hx hb dd_SH_openingOf_15 rfl (lv_at hl 2 rfl) ?_
    obtain ⟨r_5, x_6, c_7, hf⟩ := of_bnd hf
    refine cl_SH_112 C0 hap ho_v0 c_7 hP hS ⟨Nat.le_of_ble_eq_true rfl, Nat.le_of_ble_eq_true rfl⟩ hl.1 (Nat.le_of_ble_eq_true rfl) dd_SH_openingOf_16 ⟨Nat.le_refl _, Nat.le_refl _⟩ (fun H locs hP hS => ?_)
    obtain ⟨r_8, x_9, c_10, hf⟩ := of_bnd hf
    refine cl_SH_115 C0 hap ho_v0 c_10 hP hS ⟨Nat.le_of_ble_eq_true rfl, Nat.le_of_ble_eq_true rfl⟩ hl.1 (Nat.le_of_ble_eq_true rfl) dd_SH_openingOf_19 ⟨Nat.le_refl _, Nat.le_refl _⟩ (fun H locs hP hS => ?_)
    refine rqSn (lv' := [(3, va_re ad r_8), (2, .int r_1), (0, .ref (ad v0)), (1, .int v1)]) hx hb dd_SH_openingOf_22 rfl hl (by decide) rfl (fun ls hl => ?_)
    refine lv_aload_n hx hb dd_SH_openingOf_23 rfl (lv_at hl 2 rfl) ?_
    refine lv_aload_n hx hb dd_SH_openingOf_24 rfl (lv_at hl 2 rfl) ?_
    refine lv_iload_n hx hb dd_SH_openingOf_25 rfl (lv_at hl 3 rfl) ?_
    obtain ⟨r_11, x_12, c_13, hf⟩ := of_bnd hf
    refine cl_SH_119 C0 hap ho_v0 c_13 hP hS ⟨Nat.le_of_ble_eq_true rfl, Nat.le_of_ble_eq_true rfl⟩ hl.1 (Nat.le_of_ble_eq_true rfl) dd_SH_openingOf_26 ⟨Nat.le_refl _, Nat.le_refl _⟩ (fun H locs hP hS => ?_)
    obtain ⟨r_14, x_15, c_16, hf⟩ := of_bnd hf
    refine cl_SH_115 C0 hap ho_v0 c_16 hP hS ⟨Nat.le_of_ble_eq_true rfl, Nat.le_of_ble_eq_true rfl⟩ hl.1 (Nat.le_of_ble_eq_true rfl) dd_SH_openingOf_29 ⟨Nat.le_refl _, Nat.le_refl _⟩ (fun H locs hP hS => ?_)
    refine rqS (lv' := [(4, va_re ad r_14), (3, va_re ad r_8), (2, .int r_1), (0, .ref (ad v0)), (1, .int v1)]) hx hb dd_SH_openingOf_32 hl (by decide) (by simp only [List.filter_cons, List.filter_nil, cat_re]; rfl) (fun ls hl => ?_)
    refine raQn hx hb dd_SH_openingOf_34 rfl (lv_at hl 1 rfl) ?_
    refine raQ hx hb dd_SH_openingOf_35 (lv_at hl 0 rfl) ?_
    refine lv_aload_n hx hb dd_SH_openingOf_37 rfl (lv_at hl 3 rfl) ?_
    refine gf_SH_20 C0 hP ho_v0 dd_SH_openingOf_38 ?_
    refine lv_iload_n hx hb dd_SH_openingOf_41 rfl (lv_at hl 4 rfl) ?_
    refine lv_iconst (v := 0) hx hb dd_SH_openingOf_42 (by decide) ?_
    obtain ⟨r_17, x_18, c_19, hf⟩ := of_bnd hf
    refine cl_SH_78 C0 hap (tp_4_1 ho_v0) c_19 hP hS ⟨Nat.le_of_ble_eq_true rfl, Nat.le_of_ble_eq_true rfl⟩ hl.1 (by simp only [List.map_cons, List.map_nil, cat_re]; exact Nat.le_of_ble_eq_true rfl) dd_SH_openingOf_43 ⟨Nat.le_refl _, Nat.le_refl _⟩ (fun H locs hP hS => ?_)
    refine lv_iload_n hx hb dd_SH_openingOf_46 rfl (lv_at hl 2 rfl) ?_
    refine lv_bipush (v := 99) hx hb dd_SH_openingOf_47 (by decide) ?_
    obtain ⟨r_20, x_21, c_22, hf⟩ := of_bnd hf
    refine cl_SH_122 C0 hap (qq_SH_griefsOf ho_v0 c_10) (qq_SH_griefsOf ho_v0 c_16) c_22 hP hS ⟨Nat.le_of_ble_eq_true rfl, Nat.le_of_ble_eq_true rfl⟩ hl.1 (Nat.le_of_ble_eq_true rfl) dd_SH_openingOf_49 ⟨Nat.le_refl _, Nat.le_refl _⟩ (fun H locs hP hS => ?_)
    exact rrI C0 hP hS dd_SH_openingOf_52 hf
  · have hf := (if_pos h_4).symm.trans hf
    refine lv_iconst (v := -1) hx hb dd_SH_openingOf_11 (by decide) ?_
    exact rrI C0 hP hS dd_SH_openingOf_12 hf
theorem cc_SH_openingOf {l : Launch} {E : Ev} {A : Nat → Prop} {ad : Nat → Nat} (hap : Ap ad ixC A) {x x' : St} {v0 : Nat} {v1 : Int32} {r : Int32} (ho_v0 : isO ixC v0 4) (hf : ff_SH_openingOf x v0 v1 = some (r, x')) : Met l yy_SH_openingOf (Cond.code yy_SH_openingOf bb_SH_openingOf 5 (some .int) :: gtb) rm_SH_openingOf (va_Pc [.ref (ad v0), .int v1] (PB E A ad ixC x)) (QX E ad ixC A (some (.int r)) x') 0 0 A := by
  exact enter (by decide) (Nat.le_of_ble_eq_true rfl) (fun p e s m below meth c ls C0 hP hS hl => ww_SH_openingOf C0 hap ho_v0 hf hP hS hl)
theorem cl_SH_131 {p : Program} {l : Launch} {e : Env} {R : Room} {s : State} {m : MethodId} {args : Array Value} {below : List Frame} {meth : Method} {c : Code} {H : Heap} {locs : List Loc} {cells slots : Nat} {Q : State → Prop} {cc : ByteArray} {pc : Nat} {ls : Array Slot} {rest : List Value} {E : Ev} {A : Nat → Prop} {ad : Nat → Nat} {nL : Nat} {rt : Option FieldType} (C0 : Cx E A RSH cc nL rt p s m args meth c) (hap : Ap ad ixC A) {x x' : St} {v0 : Nat} {v1 : Int32} {r : Int32} (ho_v0 : isO ixC v0 4) (hc : ff_SH_openingOf x v0 v1 = some (r, x')) (hP : Wd E ad ixC x H) (hS : va_S A s.heap H locs) (hR : rm_SH_openingOf.frames + 1 ≤ R.frames ∧ 8 + (5 + 11) + rm_SH_openingOf.locals ≤ R.locals) (hls : ls.size = nL) (hroom : (rest.map fun v => v.category).sum ≤ 8) (hdg : decode cc pc = .ok (.invokevirtual 131, 3)) (hf : cells ≤ R.cells ∧ slots ≤ R.slots) (kk : ∀ H1 locs1, Wd E ad ixC x' H1 → va_S A s.heap H1 locs1 → W p l e R s m args below meth c H1 locs1 cells slots Q (F0 m (pc + 3) ls (.int r :: rest))) : W p l e R s m args below meth c H locs cells slots Q (F0 m pc ls (.int v1 :: .ref (ad v0) :: rest)) :=
  rcV (n := 1) C0 (cc_SH_openingOf hap ho_v0 hc) hP hS ho_v0 vcl_4 (by decide) gw_code_SH_openingOf gw_m_SH_131 gw_inst_SH_openingOf gw_sel_SH_openingOf gw_ini_SH rfl rfl (by decide +kernel) rfl hR hls rfl hroom hdg hf (fun H1 locs1 a _ _ b => kk H1 locs1 a b)
theorem cl_SH_134 {p : Program} {l : Launch} {e : Env} {R : Room} {s : State} {m : MethodId} {args : Array Value} {below : List Frame} {meth : Method} {c : Code} {H : Heap} {locs : List Loc} {cells slots : Nat} {Q : State → Prop} {cc : ByteArray} {pc : Nat} {ls : Array Slot} {rest : List Value} {E : Ev} {A : Nat → Prop} {ad : Nat → Nat} {nL : Nat} {rt : Option FieldType} (C0 : Cx E A RSH cc nL rt p s m args meth c) (hap : Ap ad ixC A) {x x' : St} {v0 : Nat} {v1 : Int32} {v2 : Int32} {r : Int32} (ho_v0 : isO ixC v0 4) (hc : ff_SH_isPartOf x v0 v1 v2 = some (r, x')) (hP : Wd E ad ixC x H) (hS : va_S A s.heap H locs) (hR : rm_SH_isPartOf.frames + 1 ≤ R.frames ∧ 8 + (3 + 11) + rm_SH_isPartOf.locals ≤ R.locals) (hls : ls.size = nL) (hroom : (rest.map fun v => v.category).sum ≤ 8) (hdg : decode cc pc = .ok (.invokevirtual 134, 3)) (hf : cells ≤ R.cells ∧ slots ≤ R.slots) (kk : ∀ H1 locs1, Wd E ad ixC x' H1 → va_S A s.heap H1 locs1 → W p l e R s m args below meth c H1 locs1 cells slots Q (F0 m (pc + 3) ls (.int r :: rest))) : W p l e R s m args below meth c H locs cells slots Q (F0 m pc ls (.int v2 :: .int v1 :: .ref (ad v0) :: rest)) :=
  rcV (n := 2) C0 (cc_SH_isPartOf hap ho_v0 hc) hP hS ho_v0 vcl_4 (by decide) gw_code_SH_isPartOf gw_m_SH_134 gw_inst_SH_isPartOf gw_sel_SH_isPartOf gw_ini_SH rfl rfl (by decide +kernel) rfl hR hls rfl hroom hdg hf (fun H1 locs1 a _ _ b => kk H1 locs1 a b)
abbrev rm_SH_isLasting : Room := { frames := 3, cells := 0, slots := 0, locals := 71 }
theorem dd_SH_isLasting_0 : decode bb_SH_isLasting 0 = .ok (.aload_n 0, 1) := by decide +kernel
theorem dd_SH_isLasting_1 : decode bb_SH_isLasting 1 = .ok (.getfield 23, 3) := by decide +kernel
theorem dd_SH_isLasting_4 : decode bb_SH_isLasting 4 = .ok (.iload_n 1, 1) := by decide +kernel
theorem dd_SH_isLasting_5 : decode bb_SH_isLasting 5 = .ok (.iconst 1, 1) := by decide +kernel
theorem dd_SH_isLasting_6 : decode bb_SH_isLasting 6 = .ok (.invokevirtual 78, 3) := by decide +kernel
theorem dd_SH_isLasting_9 : decode bb_SH_isLasting 9 = .ok (.aload_n 0, 1) := by decide +kernel
theorem dd_SH_isLasting_10 : decode bb_SH_isLasting 10 = .ok (.getfield 57, 3) := by decide +kernel
theorem dd_SH_isLasting_13 : decode bb_SH_isLasting 13 = .ok (.invokestatic 126, 3) := by decide +kernel
theorem dd_SH_isLasting_16 : decode bb_SH_isLasting 16 = .ok (.istore_n 2, 1) := by decide +kernel
theorem dd_SH_isLasting_17 : decode bb_SH_isLasting 17 = .ok (.iconst 0, 1) := by decide +kernel
theorem dd_SH_isLasting_18 : decode bb_SH_isLasting 18 = .ok (.istore_n 3, 1) := by decide +kernel
theorem dd_SH_isLasting_19 : decode bb_SH_isLasting 19 = .ok (.iload_n 3, 1) := by decide +kernel
theorem dd_SH_isLasting_20 : decode bb_SH_isLasting 20 = .ok (.aload_n 0, 1) := by decide +kernel
theorem dd_SH_isLasting_21 : decode bb_SH_isLasting 21 = .ok (.getfield 20, 3) := by decide +kernel
theorem dd_SH_isLasting_24 : decode bb_SH_isLasting 24 = .ok (.getfield 50, 3) := by decide +kernel
theorem dd_SH_isLasting_27 : decode bb_SH_isLasting 27 = .ok (.if_icmp .ge 29, 3) := by decide +kernel
theorem dd_SH_isLasting_30 : decode bb_SH_isLasting 30 = .ok (.aload_n 0, 1) := by decide +kernel
theorem dd_SH_isLasting_31 : decode bb_SH_isLasting 31 = .ok (.iload_n 3, 1) := by decide +kernel
theorem dd_SH_isLasting_32 : decode bb_SH_isLasting 32 = .ok (.iload_n 1, 1) := by decide +kernel
theorem dd_SH_isLasting_33 : decode bb_SH_isLasting 33 = .ok (.invokevirtual 134, 3) := by decide +kernel
theorem dd_SH_isLasting_36 : decode bb_SH_isLasting 36 = .ok (.ifCond .eq 14, 3) := by decide +kernel
theorem dd_SH_isLasting_39 : decode bb_SH_isLasting 39 = .ok (.aload_n 0, 1) := by decide +kernel
theorem dd_SH_isLasting_40 : decode bb_SH_isLasting 40 = .ok (.iload_n 3, 1) := by decide +kernel
theorem dd_SH_isLasting_41 : decode bb_SH_isLasting 41 = .ok (.invokevirtual 131, 3) := by decide +kernel
theorem dd_SH_isLasting_44 : decode bb_SH_isLasting 44 = .ok (.iload_n 2, 1) := by decide +kernel
theorem dd_SH_isLasting_45 : decode bb_SH_isLasting 45 = .ok (.if_icmp .gt 5, 3) := by decide +kernel
theorem dd_SH_isLasting_48 : decode bb_SH_isLasting 48 = .ok (.iconst 0, 1) := by decide +kernel
theorem dd_SH_isLasting_49 : decode bb_SH_isLasting 49 = .ok (.ireturn, 1) := by decide +kernel
theorem dd_SH_isLasting_50 : decode bb_SH_isLasting 50 = .ok (.iinc 3 1, 3) := by decide +kernel
theorem dd_SH_isLasting_53 : decode bb_SH_isLasting 53 = .ok (.goto (-34), 3) := by decide +kernel
theorem dd_SH_isLasting_56 : decode bb_SH_isLasting 56 = .ok (.iconst 1, 1) := by decide +kernel
theorem dd_SH_isLasting_57 : decode bb_SH_isLasting 57 = .ok (.ireturn, 1) := by decide +kernel
def ff_SH_isLasting_19  : Nat → St → Nat → Int32 → Int32 → Int32 → Option (Int32 × St)
  | 0, _, _, _, _, _ => none
  | n + 1, x, v0, v1, v2, v3 => (if (gi x (rf v0 1) 3) ≤ v3 then some (1, x) else bnd (ff_SH_isPartOf x v0 v3 v1) (fun r_5 x_6 => (if r_5 = 0 then ff_SH_isLasting_19 n x_6 v0 v1 v2 (v3 + 1) else bnd (ff_SH_openingOf x_6 v0 v3) (fun r_9 x_10 => (if v2 < r_9 then ff_SH_isLasting_19 n x_10 v0 v1 v2 (v3 + 1) else some (0, x_10))))))
def ff_SH_isLasting  (x : St) (v0 : Nat) (v1 : Int32) : Option (Int32 × St) := bnd (ff_LE_at x (rf v0 2) v1 1) (fun r_1 x_2 => ff_SH_isLasting_19 FU x_2 v0 v1 (imax r_1 (gi x_2 v0 9)) 0)
set_option maxHeartbeats 4000000 in
set_option maxRecDepth 100000 in
theorem ww_SH_isLasting_19 {p : Program} {l : Launch} {e : Env} {s : State} {m : MethodId} {args : Array Value} {below : List Frame} {meth : Method} {c : Code} {E : Ev} {A : Nat → Prop} {ad : Nat → Nat} {r : Int32} {x' : St} (C0 : Cx E A RSH bb_SH_isLasting 4 (some .boolean) p s m args meth c) (hap : Ap ad ixC A)  : ∀ (n : Nat), ∀ (x : St) (v0 : Nat) (v1 : Int32) (v2 : Int32) (v3 : Int32), (isO ixC v0 4) → ff_SH_isLasting_19 n x v0 v1 v2 v3 = some (r, x') → ∀ (H : Heap) (locs : List Loc) (ls : Array Slot), Wd E ad ixC x H → va_S A s.heap H locs → lv_has ls 4 [(0, .ref (ad v0)), (1, .int v1), (2, .int v2), (3, .int v3)] → W p l e rm_SH_isLasting s m args below meth c H locs 0 0 (MQ below (QX E ad ixC A (some (.int r)) x') args s 0 0 A) (F0 m 19 ls []) := by
  obtain ⟨hx, hb, hml, hr, hown, hts, hlk, hK⟩ := id C0
  intro n
  induction n with
  | zero => intro x v0 v1 v2 v3 ho_v0 hf; exact of_no hf
  | succ n ih =>
    intro x v0 v1 v2 v3 ho_v0 hf H locs ls hP hS hl
    have hf : (if (gi x (rf v0 1) 3) ≤ v3 then some (1, x) else bnd (ff_SH_isPartOf x v0 v3 v1) (fun r_5 x_6 => (if r_5 = 0 then ff_SH_isLasting_19 n x_6 v0 v1 v2 (v3 + 1) else bnd (ff_SH_openingOf x_6 v0 v3) (fun r_9 x_10 => (if v2 < r_9 then ff_SH_isLasting_19 n x_10 v0 v1 v2 (v3 + 1) else some (0, x_10)))))) = some (r, x') := hf
    refine lv_iload_n hx hb dd_SH_isLasting_19 rfl (lv_at hl 3 rfl) ?_
    refine lv_aload_n hx hb dd_SH_isLasting_20 rfl (lv_at hl 0 rfl) ?_
    refine gf_SH_20 C0 hP ho_v0 dd_SH_isLasting_21 ?_
    refine gf_SH_50 C0 hP (tp_4_1 ho_v0) dd_SH_isLasting_24 ?_
    refine lv_icmp_ge (tgt := 56) hx hb dd_SH_isLasting_27 (by decide) (fun h_4 => ?_) (fun h_4 => ?_)
    · have hf := (if_pos h_4).symm.trans hf
      refine lv_iconst (v := 1) hx hb dd_SH_isLasting_56 (by decide) ?_
      exact rrZ C0 hP hS (by decide) dd_SH_isLasting_57 hf
    · have hf := (if_neg h_4).symm.trans hf
      refine lv_aload_n hx hb dd_SH_isLasting_30 rfl (lv_at hl 0 rfl) ?_
      refine lv_iload_n hx hb dd_SH_isLasting_31 rfl (lv_at hl 3 rfl) ?_
      refine lv_iload_n hx hb dd_SH_isLasting_32 rfl (lv_at hl 1 rfl) ?_
      obtain ⟨r_5, x_6, c_7, hf⟩ := of_bnd hf
      refine cl_SH_134 C0 hap ho_v0 c_7 hP hS ⟨Nat.le_of_ble_eq_true rfl, Nat.le_of_ble_eq_true rfl⟩ hl.1 (Nat.le_of_ble_eq_true rfl) dd_SH_isLasting_33 ⟨Nat.le_refl _, Nat.le_refl _⟩ (fun H locs hP hS => ?_)
      refine lv_if_eq (tgt := 50) hx hb dd_SH_isLasting_36 (by decide) (fun h_8 => ?_) (fun h_8 => ?_)
      · have hf := (if_pos h_8).symm.trans hf
        refine lv_iinc (v := v3 + 1) (lv' := [(3, .int (v3 + 1)), (0, .ref (ad v0)), (1, .int v1), (2, .int v2)]) hx hb dd_SH_isLasting_50 hl (k := 3) rfl rfl (by decide) rfl (fun ls hl => ?_)
        refine lv_goto (tgt := 19) hx hb dd_SH_isLasting_53 (by decide) ?_
        exact ih x_6 v0 v1 v2 (v3 + 1) ho_v0 hf _ _ _ hP hS (lv_sub hl [1, 2, 3, 0] rfl)
      · have hf := (if_neg h_8).symm.trans hf
        refine lv_aload_n hx hb dd_SH_isLasting_39 rfl (lv_at hl 0 rfl) ?_
        refine lv_iload_n hx hb dd_SH_isLasting_40 rfl (lv_at hl 3 rfl) ?_
        obtain ⟨r_9, x_10, c_11, hf⟩ := of_bnd hf
        refine cl_SH_131 C0 hap ho_v0 c_11 hP hS ⟨Nat.le_of_ble_eq_true rfl, Nat.le_of_ble_eq_true rfl⟩ hl.1 (Nat.le_of_ble_eq_true rfl) dd_SH_isLasting_41 ⟨Nat.le_refl _, Nat.le_refl _⟩ (fun H locs hP hS => ?_)
        refine lv_iload_n hx hb dd_SH_isLasting_44 rfl (lv_at hl 2 rfl) ?_
        refine lv_icmp_gt (tgt := 50) hx hb dd_SH_isLasting_45 (by decide) (fun h_12 => ?_) (fun h_12 => ?_)
        · have hf := (if_pos h_12).symm.trans hf
          refine lv_iinc (v := v3 + 1) (lv' := [(3, .int (v3 + 1)), (0, .ref (ad v0)), (1, .int v1), (2, .int v2)]) hx hb dd_SH_isLasting_50 hl (k := 3) rfl rfl (by decide) rfl (fun ls hl => ?_)
          refine lv_goto (tgt := 19) hx hb dd_SH_isLasting_53 (by decide) ?_
          exact ih x_10 v0 v1 v2 (v3 + 1) ho_v0 hf _ _ _ hP hS (lv_sub hl [1, 2, 3, 0] rfl)
        · have hf := (if_neg h_12).symm.trans hf
          refine lv_iconst (v := 0) hx hb dd_SH_isLasting_48 (by decide) ?_
          exact rrZ C0 hP hS (by decide) dd_SH_isLasting_49 hf
set_option maxHeartbeats 4000000 in
set_option maxRecDepth 100000 in
theorem ww_SH_isLasting {p : Program} {l : Launch} {e : Env} {s : State} {m : MethodId} {args : Array Value} {below : List Frame} {meth : Method} {c : Code} {E : Ev} {A : Nat → Prop} {ad : Nat → Nat} {r : Int32} {x' : St} (C0 : Cx E A RSH bb_SH_isLasting 4 (some .boolean) p s m args meth c) (hap : Ap ad ixC A)  {x : St} {v0 : Nat} {v1 : Int32} (ho_v0 : isO ixC v0 4) (hf : ff_SH_isLasting x v0 v1 = some (r, x')) {H : Heap} {locs : List Loc} {ls : Array Slot} (hP : Wd E ad ixC x H) (hS : va_S A s.heap H locs) (hl : lv_has ls 4 [(0, .ref (ad v0)), (1, .int v1)]) : W p l e rm_SH_isLasting s m args below meth c H locs 0 0 (MQ below (QX E ad ixC A (some (.int r)) x') args s 0 0 A) (F0 m 0 ls []) := by
  obtain ⟨hx, hb, hml, hr, hown, hts, hlk, hK⟩ := id C0
  have hf : bnd (ff_LE_at x (rf v0 2) v1 1) (fun r_1 x_2 => ff_SH_isLasting_19 FU x_2 v0 v1 (imax r_1 (gi x_2 v0 9)) 0) = some (r, x') := hf
  refine lv_aload_n hx hb dd_SH_isLasting_0 rfl (lv_at hl 0 rfl) ?_
  refine gf_SH_23 C0 hP ho_v0 dd_SH_isLasting_1 ?_
  refine lv_iload_n hx hb dd_SH_isLasting_4 rfl (lv_at hl 1 rfl) ?_
  refine lv_iconst (v := 1) hx hb dd_SH_isLasting_5 (by decide) ?_
  obtain ⟨r_1, x_2, c_3, hf⟩ := of_bnd hf
  refine cl_SH_78 C0 hap (tp_4_2 ho_v0) c_3 hP hS ⟨Nat.le_of_ble_eq_true rfl, Nat.le_of_ble_eq_true rfl⟩ hl.1 (Nat.le_of_ble_eq_true rfl) dd_SH_isLasting_6 ⟨Nat.le_refl _, Nat.le_refl _⟩ (fun H locs hP hS => ?_)
  refine lv_aload_n hx hb dd_SH_isLasting_9 rfl (lv_at hl 0 rfl) ?_
  refine gf_SH_57 C0 hP ho_v0 dd_SH_isLasting_10 ?_
  refine rmax C0 hl.1 gw_m_SH_126 (Nat.le_of_ble_eq_true rfl) ⟨Nat.le_of_ble_eq_true rfl, Nat.le_of_ble_eq_true rfl⟩ ⟨Nat.le_refl _, Nat.le_refl _⟩ dd_SH_isLasting_13 ?_
  refine lv_istore_n (lv' := [(2, .int (imax r_1 (gi x_2 v0 9))), (0, .ref (ad v0)), (1, .int v1)]) hx hb dd_SH_isLasting_16 rfl hl (by decide) rfl (fun ls hl => ?_)
  refine lv_iconst (v := 0) hx hb dd_SH_isLasting_17 (by decide) ?_
  refine lv_istore_n (lv' := [(3, .int 0), (2, .int (imax r_1 (gi x_2 v0 9))), (0, .ref (ad v0)), (1, .int v1)]) hx hb dd_SH_isLasting_18 rfl hl (by decide) rfl (fun ls hl => ?_)
  exact ww_SH_isLasting_19 C0 hap  FU x_2 v0 v1 (imax r_1 (gi x_2 v0 9)) 0 ho_v0 hf _ _ _ hP hS (lv_sub hl [2, 3, 1, 0] rfl)
theorem cc_SH_isLasting {l : Launch} {E : Ev} {A : Nat → Prop} {ad : Nat → Nat} (hap : Ap ad ixC A) {x x' : St} {v0 : Nat} {v1 : Int32} {r : Int32} (ho_v0 : isO ixC v0 4) (hf : ff_SH_isLasting x v0 v1 = some (r, x')) : Met l yy_SH_isLasting (Cond.code yy_SH_isLasting bb_SH_isLasting 4 (some .boolean) :: gtb) rm_SH_isLasting (va_Pc [.ref (ad v0), .int v1] (PB E A ad ixC x)) (QX E ad ixC A (some (.int r)) x') 0 0 A := by
  exact enter (by decide) (Nat.le_of_ble_eq_true rfl) (fun p e s m below meth c ls C0 hP hS hl => ww_SH_isLasting C0 hap ho_v0 hf hP hS hl)
abbrev rm_GG_isWithin : Room := { frames := 0, cells := 0, slots := 0, locals := 0 }
theorem dd_GG_isWithin_0 : decode bb_GG_isWithin 0 = .ok (.iload_n 0, 1) := by decide +kernel
theorem dd_GG_isWithin_1 : decode bb_GG_isWithin 1 = .ok (.iload_n 1, 1) := by decide +kernel
theorem dd_GG_isWithin_2 : decode bb_GG_isWithin 2 = .ok (.if_icmp .lt 12, 3) := by decide +kernel
theorem dd_GG_isWithin_5 : decode bb_GG_isWithin 5 = .ok (.iload_n 0, 1) := by decide +kernel
theorem dd_GG_isWithin_6 : decode bb_GG_isWithin 6 = .ok (.iload_n 2, 1) := by decide +kernel
theorem dd_GG_isWithin_7 : decode bb_GG_isWithin 7 = .ok (.if_icmp .gt 7, 3) := by decide +kernel
theorem dd_GG_isWithin_10 : decode bb_GG_isWithin 10 = .ok (.iconst 1, 1) := by decide +kernel
theorem dd_GG_isWithin_11 : decode bb_GG_isWithin 11 = .ok (.goto 4, 3) := by decide +kernel
theorem dd_GG_isWithin_14 : decode bb_GG_isWithin 14 = .ok (.iconst 0, 1) := by decide +kernel
theorem dd_GG_isWithin_15 : decode bb_GG_isWithin 15 = .ok (.ireturn, 1) := by decide +kernel
def ff_GG_isWithin  (x : St) (v0 : Int32) (v1 : Int32) (v2 : Int32) : Option (Int32 × St) := (if v0 < v1 then some (0, x) else (if v2 < v0 then some (0, x) else some (1, x)))
set_option maxHeartbeats 4000000 in
set_option maxRecDepth 100000 in
theorem ww_GG_isWithin {p : Program} {l : Launch} {e : Env} {s : State} {m : MethodId} {args : Array Value} {below : List Frame} {meth : Method} {c : Code} {E : Ev} {A : Nat → Prop} {ad : Nat → Nat} {r : Int32} {x' : St} (C0 : Cx E A RGG bb_GG_isWithin 3 (some .boolean) p s m args meth c) (hap : Ap ad ixC A)  {x : St} {v0 : Int32} {v1 : Int32} {v2 : Int32}  (hf : ff_GG_isWithin x v0 v1 v2 = some (r, x')) {H : Heap} {locs : List Loc} {ls : Array Slot} (hP : Wd E ad ixC x H) (hS : va_S A s.heap H locs) (hl : lv_has ls 3 [(0, .int v0), (1, .int v1), (2, .int v2)]) : W p l e rm_GG_isWithin s m args below meth c H locs 0 0 (MQ below (QX E ad ixC A (some (.int r)) x') args s 0 0 A) (F0 m 0 ls []) := by
  obtain ⟨hx, hb, hml, hr, hown, hts, hlk, hK⟩ := id C0
  have hf : (if v0 < v1 then some (0, x) else (if v2 < v0 then some (0, x) else some (1, x))) = some (r, x') := hf
  refine lv_iload_n hx hb dd_GG_isWithin_0 rfl (lv_at hl 0 rfl) ?_
  refine lv_iload_n hx hb dd_GG_isWithin_1 rfl (lv_at hl 1 rfl) ?_
  refine lv_icmp_lt (tgt := 14) hx hb dd_GG_isWithin_2 (by decide) (fun h_1 => ?_) (fun h_1 => ?_)
  · have hf := (if_pos h_1).symm.trans hf
    refine lv_iconst (v := 0) hx hb dd_GG_isWithin_14 (by decide) ?_
    exact rrZ C0 hP hS (by decide) dd_GG_isWithin_15 hf
  · have hf := (if_neg h_1).symm.trans hf
    refine lv_iload_n hx hb dd_GG_isWithin_5 rfl (lv_at hl 0 rfl) ?_
    refine lv_iload_n hx hb dd_GG_isWithin_6 rfl (lv_at hl 2 rfl) ?_
    refine lv_icmp_gt (tgt := 14) hx hb dd_GG_isWithin_7 (by decide) (fun h_2 => ?_) (fun h_2 => ?_)
    · have hf := (if_pos h_2).symm.trans hf
      refine lv_iconst (v := 0) hx hb dd_GG_isWithin_14 (by decide) ?_
      exact rrZ C0 hP hS (by decide) dd_GG_isWithin_15 hf
    · have hf := (if_neg h_2).symm.trans hf
      refine lv_iconst (v := 1) hx hb dd_GG_isWithin_10 (by decide) ?_
      refine lv_goto (tgt := 15) hx hb dd_GG_isWithin_11 (by decide) ?_
      exact rrZ C0 hP hS (by decide) dd_GG_isWithin_15 hf
theorem cc_GG_isWithin {l : Launch} {E : Ev} {A : Nat → Prop} {ad : Nat → Nat} (hap : Ap ad ixC A) {x x' : St} {v0 : Int32} {v1 : Int32} {v2 : Int32} {r : Int32}  (hf : ff_GG_isWithin x v0 v1 v2 = some (r, x')) : Met l yy_GG_isWithin (Cond.code yy_GG_isWithin bb_GG_isWithin 3 (some .boolean) :: gtb) rm_GG_isWithin (va_Pc [.int v0, .int v1, .int v2] (PB E A ad ixC x)) (QX E ad ixC A (some (.int r)) x') 0 0 A := by
  exact enter (by decide) (Nat.le_of_ble_eq_true rfl) (fun p e s m below meth c ls C0 hP hS hl => ww_GG_isWithin C0 hap  hf hP hS hl)
theorem cl_SH_105 {p : Program} {l : Launch} {e : Env} {R : Room} {s : State} {m : MethodId} {args : Array Value} {below : List Frame} {meth : Method} {c : Code} {H : Heap} {locs : List Loc} {cells slots : Nat} {Q : State → Prop} {cc : ByteArray} {pc : Nat} {ls : Array Slot} {rest : List Value} {E : Ev} {A : Nat → Prop} {ad : Nat → Nat} {nL : Nat} {rt : Option FieldType} (C0 : Cx E A RSH cc nL rt p s m args meth c) (hap : Ap ad ixC A) {x x' : St} {v0 : Int32} {v1 : Int32} {v2 : Int32} {r : Int32}  (hc : ff_GG_isWithin x v0 v1 v2 = some (r, x')) (hP : Wd E ad ixC x H) (hS : va_S A s.heap H locs) (hR : rm_GG_isWithin.frames + 1 ≤ R.frames ∧ 8 + (3 + 11) + rm_GG_isWithin.locals ≤ R.locals) (hls : ls.size = nL) (hroom : (rest.map fun v => v.category).sum ≤ 8) (hdg : decode cc pc = .ok (.invokestatic 105, 3)) (hf : cells ≤ R.cells ∧ slots ≤ R.slots) (kk : ∀ H1 locs1, Wd E ad ixC x' H1 → va_S A s.heap H1 locs1 → W p l e R s m args below meth c H1 locs1 cells slots Q (F0 m (pc + 3) ls (.int r :: rest))) : W p l e R s m args below meth c H locs cells slots Q (F0 m pc ls (.int v2 :: .int v1 :: .int v0 :: rest)) :=
  rcSN (n := 3) C0 (cc_GG_isWithin hap  hc) hP hS gw_code_GG_isWithin gw_m_SH_105 gw_static_GG_isWithin gw_ini_GG rfl rfl (by decide +kernel) rfl hR hls rfl hroom hdg hf (fun H1 locs1 a _ _ b => kk H1 locs1 a b)
abbrev rm_SH_griefOn : Room := { frames := 1, cells := 0, slots := 0, locals := 22 }
theorem dd_SH_griefOn_0 : decode bb_SH_griefOn 0 = .ok (.aload_n 0, 1) := by decide +kernel
theorem dd_SH_griefOn_1 : decode bb_SH_griefOn 1 = .ok (.getfield 14, 3) := by decide +kernel
theorem dd_SH_griefOn_4 : decode bb_SH_griefOn 4 = .ok (.iload_n 1, 1) := by decide +kernel
theorem dd_SH_griefOn_5 : decode bb_SH_griefOn 5 = .ok (.invokevirtual 85, 3) := by decide +kernel
theorem dd_SH_griefOn_8 : decode bb_SH_griefOn 8 = .ok (.ifCond .eq 24, 3) := by decide +kernel
theorem dd_SH_griefOn_11 : decode bb_SH_griefOn 11 = .ok (.iload_n 2, 1) := by decide +kernel
theorem dd_SH_griefOn_12 : decode bb_SH_griefOn 12 = .ok (.iconst 0, 1) := by decide +kernel
theorem dd_SH_griefOn_13 : decode bb_SH_griefOn 13 = .ok (.bipush 99, 2) := by decide +kernel
theorem dd_SH_griefOn_15 : decode bb_SH_griefOn 15 = .ok (.invokestatic 105, 3) := by decide +kernel
theorem dd_SH_griefOn_18 : decode bb_SH_griefOn 18 = .ok (.ifCond .eq 14, 3) := by decide +kernel
theorem dd_SH_griefOn_21 : decode bb_SH_griefOn 21 = .ok (.aload_n 0, 1) := by decide +kernel
theorem dd_SH_griefOn_22 : decode bb_SH_griefOn 22 = .ok (.getfield 34, 3) := by decide +kernel
theorem dd_SH_griefOn_25 : decode bb_SH_griefOn 25 = .ok (.iload_n 1, 1) := by decide +kernel
theorem dd_SH_griefOn_26 : decode bb_SH_griefOn 26 = .ok (.aaload, 1) := by decide +kernel
theorem dd_SH_griefOn_27 : decode bb_SH_griefOn 27 = .ok (.iload_n 2, 1) := by decide +kernel
theorem dd_SH_griefOn_28 : decode bb_SH_griefOn 28 = .ok (.iaload, 1) := by decide +kernel
theorem dd_SH_griefOn_29 : decode bb_SH_griefOn 29 = .ok (.goto 4, 3) := by decide +kernel
theorem dd_SH_griefOn_32 : decode bb_SH_griefOn 32 = .ok (.iconst (-1), 1) := by decide +kernel
theorem dd_SH_griefOn_33 : decode bb_SH_griefOn 33 = .ok (.ireturn, 1) := by decide +kernel
def ff_SH_griefOn  (x : St) (v0 : Nat) (v1 : Int32) (v2 : Int32) : Option (Int32 × St) := bnd (ff_LE_has x (rf v0 0) v1) (fun r_1 x_2 => (if r_1 = 0 then some ((-1), x_2) else bnd (ff_GG_isWithin x_2 v2 0 99) (fun r_5 x_6 => (if r_5 = 0 then some ((-1), x_6) else (if ixb v1 (ln (rf v0 5)) = true then (if ixb v2 (ln (rf (rf v0 5) (ix v1))) = true then some (gi x_6 (rf (rf v0 5) (ix v1)) (ix v2), x_6) else none) else none)))))
set_option maxHeartbeats 4000000 in
set_option maxRecDepth 100000 in
theorem ww_SH_griefOn {p : Program} {l : Launch} {e : Env} {s : State} {m : MethodId} {args : Array Value} {below : List Frame} {meth : Method} {c : Code} {E : Ev} {A : Nat → Prop} {ad : Nat → Nat} {r : Int32} {x' : St} (C0 : Cx E A RSH bb_SH_griefOn 3 (some .int) p s m args meth c) (hap : Ap ad ixC A)  {x : St} {v0 : Nat} {v1 : Int32} {v2 : Int32} (ho_v0 : isO ixC v0 4) (hf : ff_SH_griefOn x v0 v1 v2 = some (r, x')) {H : Heap} {locs : List Loc} {ls : Array Slot} (hP : Wd E ad ixC x H) (hS : va_S A s.heap H locs) (hl : lv_has ls 3 [(0, .ref (ad v0)), (1, .int v1), (2, .int v2)]) : W p l e rm_SH_griefOn s m args below meth c H locs 0 0 (MQ below (QX E ad ixC A (some (.int r)) x') args s 0 0 A) (F0 m 0 ls []) := by
  obtain ⟨hx, hb, hml, hr, hown, hts, hlk, hK⟩ := id C0
  have hf : bnd (ff_LE_has x (rf v0 0) v1) (fun r_1 x_2 => (if r_1 = 0 then some ((-1), x_2) else bnd (ff_GG_isWithin x_2 v2 0 99) (fun r_5 x_6 => (if r_5 = 0 then some ((-1), x_6) else (if ixb v1 (ln (rf v0 5)) = true then (if ixb v2 (ln (rf (rf v0 5) (ix v1))) = true then some (gi x_6 (rf (rf v0 5) (ix v1)) (ix v2), x_6) else none) else none))))) = some (r, x') := hf
  refine lv_aload_n hx hb dd_SH_griefOn_0 rfl (lv_at hl 0 rfl) ?_
  refine gf_SH_14 C0 hP ho_v0 dd_SH_griefOn_1 ?_
  refine lv_iload_n hx hb dd_SH_griefOn_4 rfl (lv_at hl 1 rfl) ?_
  obtain ⟨r_1, x_2, c_3, hf⟩ := of_bnd hf
  refine cl_SH_85 C0 hap (tp_4_0 ho_v0) c_3 hP hS ⟨Nat.le_of_ble_eq_true rfl, Nat.le_of_ble_eq_true rfl⟩ hl.1 (Nat.le_of_ble_eq_true rfl) dd_SH_griefOn_5 ⟨Nat.le_refl _, Nat.le_refl _⟩ (fun H locs hP hS => ?_)
  refine lv_if_eq (tgt := 32) hx hb dd_SH_griefOn_8 (by decide) (fun h_4 => ?_) (fun h_4 => ?_)
  · have hf := (if_pos h_4).symm.trans hf
    refine lv_iconst (v := -1) hx hb dd_SH_griefOn_32 (by decide) ?_
    exact rrI C0 hP hS dd_SH_griefOn_33 hf
  · have hf := (if_neg h_4).symm.trans hf
    refine lv_iload_n hx hb dd_SH_griefOn_11 rfl (lv_at hl 2 rfl) ?_
    refine lv_iconst (v := 0) hx hb dd_SH_griefOn_12 (by decide) ?_
    refine lv_bipush (v := 99) hx hb dd_SH_griefOn_13 (by decide) ?_
    obtain ⟨r_5, x_6, c_7, hf⟩ := of_bnd hf
    refine cl_SH_105 C0 hap  c_7 hP hS ⟨Nat.le_of_ble_eq_true rfl, Nat.le_of_ble_eq_true rfl⟩ hl.1 (Nat.le_of_ble_eq_true rfl) dd_SH_griefOn_15 ⟨Nat.le_refl _, Nat.le_refl _⟩ (fun H locs hP hS => ?_)
    refine lv_if_eq (tgt := 32) hx hb dd_SH_griefOn_18 (by decide) (fun h_8 => ?_) (fun h_8 => ?_)
    · have hf := (if_pos h_8).symm.trans hf
      refine lv_iconst (v := -1) hx hb dd_SH_griefOn_32 (by decide) ?_
      exact rrI C0 hP hS dd_SH_griefOn_33 hf
    · have hf := (if_neg h_8).symm.trans hf
      refine lv_aload_n hx hb dd_SH_griefOn_21 rfl (lv_at hl 0 rfl) ?_
      refine gf_SH_34 C0 hP ho_v0 dd_SH_griefOn_22 ?_
      refine lv_iload_n hx hb dd_SH_griefOn_25 rfl (lv_at hl 1 rfl) ?_
      obtain ⟨h_9, hf⟩ := of_ifb hf
      refine raA C0 hP (tp_4_5 ho_v0) h_9 dd_SH_griefOn_26 ?_
      refine lv_iload_n hx hb dd_SH_griefOn_27 rfl (lv_at hl 2 rfl) ?_
      obtain ⟨h_10, hf⟩ := of_ifb hf
      refine raI C0 hP (tp_25 (tp_4_5 ho_v0) h_9) h_10 dd_SH_griefOn_28 ?_
      refine lv_goto (tgt := 33) hx hb dd_SH_griefOn_29 (by decide) ?_
      exact rrI C0 hP hS dd_SH_griefOn_33 hf
theorem cc_SH_griefOn {l : Launch} {E : Ev} {A : Nat → Prop} {ad : Nat → Nat} (hap : Ap ad ixC A) {x x' : St} {v0 : Nat} {v1 : Int32} {v2 : Int32} {r : Int32} (ho_v0 : isO ixC v0 4) (hf : ff_SH_griefOn x v0 v1 v2 = some (r, x')) : Met l yy_SH_griefOn (Cond.code yy_SH_griefOn bb_SH_griefOn 3 (some .int) :: gtb) rm_SH_griefOn (va_Pc [.ref (ad v0), .int v1, .int v2] (PB E A ad ixC x)) (QX E ad ixC A (some (.int r)) x') 0 0 A := by
  exact enter (by decide) (Nat.le_of_ble_eq_true rfl) (fun p e s m below meth c ls C0 hP hS hl => ww_SH_griefOn C0 hap ho_v0 hf hP hS hl)
abbrev rm_SH_isFeastOf : Room := { frames := 2, cells := 0, slots := 0, locals := 43 }
theorem dd_SH_isFeastOf_0 : decode bb_SH_isFeastOf 0 = .ok (.aload_n 0, 1) := by decide +kernel
theorem dd_SH_isFeastOf_1 : decode bb_SH_isFeastOf 1 = .ok (.getfield 26, 3) := by decide +kernel
theorem dd_SH_isFeastOf_4 : decode bb_SH_isFeastOf 4 = .ok (.iload_n 1, 1) := by decide +kernel
theorem dd_SH_isFeastOf_5 : decode bb_SH_isFeastOf 5 = .ok (.iconst 1, 1) := by decide +kernel
theorem dd_SH_isFeastOf_6 : decode bb_SH_isFeastOf 6 = .ok (.invokevirtual 78, 3) := by decide +kernel
theorem dd_SH_isFeastOf_9 : decode bb_SH_isFeastOf 9 = .ok (.iload_n 3, 1) := by decide +kernel
theorem dd_SH_isFeastOf_10 : decode bb_SH_isFeastOf 10 = .ok (.if_icmp .ne 20, 3) := by decide +kernel
theorem dd_SH_isFeastOf_13 : decode bb_SH_isFeastOf 13 = .ok (.aload_n 0, 1) := by decide +kernel
theorem dd_SH_isFeastOf_14 : decode bb_SH_isFeastOf 14 = .ok (.getfield 26, 3) := by decide +kernel
theorem dd_SH_isFeastOf_17 : decode bb_SH_isFeastOf 17 = .ok (.iload_n 1, 1) := by decide +kernel
theorem dd_SH_isFeastOf_18 : decode bb_SH_isFeastOf 18 = .ok (.iconst 2, 1) := by decide +kernel
theorem dd_SH_isFeastOf_19 : decode bb_SH_isFeastOf 19 = .ok (.invokevirtual 78, 3) := by decide +kernel
theorem dd_SH_isFeastOf_22 : decode bb_SH_isFeastOf 22 = .ok (.iload_n 2, 1) := by decide +kernel
theorem dd_SH_isFeastOf_23 : decode bb_SH_isFeastOf 23 = .ok (.if_icmp .ne 7, 3) := by decide +kernel
theorem dd_SH_isFeastOf_26 : decode bb_SH_isFeastOf 26 = .ok (.iconst 1, 1) := by decide +kernel
theorem dd_SH_isFeastOf_27 : decode bb_SH_isFeastOf 27 = .ok (.goto 4, 3) := by decide +kernel
theorem dd_SH_isFeastOf_30 : decode bb_SH_isFeastOf 30 = .ok (.iconst 0, 1) := by decide +kernel
theorem dd_SH_isFeastOf_31 : decode bb_SH_isFeastOf 31 = .ok (.ireturn, 1) := by decide +kernel
def ff_SH_isFeastOf  (x : St) (v0 : Nat) (v1 : Int32) (v2 : Int32) (v3 : Int32) : Option (Int32 × St) := bnd (ff_LE_at x (rf v0 3) v1 1) (fun r_1 x_2 => (if r_1 = v3 then bnd (ff_LE_at x_2 (rf v0 3) v1 2) (fun r_5 x_6 => (if r_5 = v2 then some (1, x_6) else some (0, x_6))) else some (0, x_2)))
set_option maxHeartbeats 4000000 in
set_option maxRecDepth 100000 in
theorem ww_SH_isFeastOf {p : Program} {l : Launch} {e : Env} {s : State} {m : MethodId} {args : Array Value} {below : List Frame} {meth : Method} {c : Code} {E : Ev} {A : Nat → Prop} {ad : Nat → Nat} {r : Int32} {x' : St} (C0 : Cx E A RSH bb_SH_isFeastOf 4 (some .boolean) p s m args meth c) (hap : Ap ad ixC A)  {x : St} {v0 : Nat} {v1 : Int32} {v2 : Int32} {v3 : Int32} (ho_v0 : isO ixC v0 4) (hf : ff_SH_isFeastOf x v0 v1 v2 v3 = some (r, x')) {H : Heap} {locs : List Loc} {ls : Array Slot} (hP : Wd E ad ixC x H) (hS : va_S A s.heap H locs) (hl : lv_has ls 4 [(0, .ref (ad v0)), (1, .int v1), (2, .int v2), (3, .int v3)]) : W p l e rm_SH_isFeastOf s m args below meth c H locs 0 0 (MQ below (QX E ad ixC A (some (.int r)) x') args s 0 0 A) (F0 m 0 ls []) := by
  obtain ⟨hx, hb, hml, hr, hown, hts, hlk, hK⟩ := id C0
  have hf : bnd (ff_LE_at x (rf v0 3) v1 1) (fun r_1 x_2 => (if r_1 = v3 then bnd (ff_LE_at x_2 (rf v0 3) v1 2) (fun r_5 x_6 => (if r_5 = v2 then some (1, x_6) else some (0, x_6))) else some (0, x_2))) = some (r, x') := hf
  refine lv_aload_n hx hb dd_SH_isFeastOf_0 rfl (lv_at hl 0 rfl) ?_
  refine gf_SH_26 C0 hP ho_v0 dd_SH_isFeastOf_1 ?_
  refine lv_iload_n hx hb dd_SH_isFeastOf_4 rfl (lv_at hl 1 rfl) ?_
  refine lv_iconst (v := 1) hx hb dd_SH_isFeastOf_5 (by decide) ?_
  obtain ⟨r_1, x_2, c_3, hf⟩ := of_bnd hf
  refine cl_SH_78 C0 hap (tp_4_3 ho_v0) c_3 hP hS ⟨Nat.le_of_ble_eq_true rfl, Nat.le_of_ble_eq_true rfl⟩ hl.1 (Nat.le_of_ble_eq_true rfl) dd_SH_isFeastOf_6 ⟨Nat.le_refl _, Nat.le_refl _⟩ (fun H locs hP hS => ?_)
  refine lv_iload_n hx hb dd_SH_isFeastOf_9 rfl (lv_at hl 3 rfl) ?_
  refine lv_icmp_ne (tgt := 30) hx hb dd_SH_isFeastOf_10 (by decide) (fun h_4 => ?_) (fun h_4 => ?_)
  · have hf := (if_neg h_4).symm.trans hf
    refine lv_iconst (v := 0) hx hb dd_SH_isFeastOf_30 (by decide) ?_
    exact rrZ C0 hP hS (by decide) dd_SH_isFeastOf_31 hf
  · have hf := (if_pos h_4).symm.trans hf
    refine lv_aload_n hx hb dd_SH_isFeastOf_13 rfl (lv_at hl 0 rfl) ?_
    refine gf_SH_26 C0 hP ho_v0 dd_SH_isFeastOf_14 ?_
    refine lv_iload_n hx hb dd_SH_isFeastOf_17 rfl (lv_at hl 1 rfl) ?_
    refine lv_iconst (v := 2) hx hb dd_SH_isFeastOf_18 (by decide) ?_
    obtain ⟨r_5, x_6, c_7, hf⟩ := of_bnd hf
    refine cl_SH_78 C0 hap (tp_4_3 ho_v0) c_7 hP hS ⟨Nat.le_of_ble_eq_true rfl, Nat.le_of_ble_eq_true rfl⟩ hl.1 (Nat.le_of_ble_eq_true rfl) dd_SH_isFeastOf_19 ⟨Nat.le_refl _, Nat.le_refl _⟩ (fun H locs hP hS => ?_)
    refine lv_iload_n hx hb dd_SH_isFeastOf_22 rfl (lv_at hl 2 rfl) ?_
    refine lv_icmp_ne (tgt := 30) hx hb dd_SH_isFeastOf_23 (by decide) (fun h_8 => ?_) (fun h_8 => ?_)
    · have hf := (if_neg h_8).symm.trans hf
      refine lv_iconst (v := 0) hx hb dd_SH_isFeastOf_30 (by decide) ?_
      exact rrZ C0 hP hS (by decide) dd_SH_isFeastOf_31 hf
    · have hf := (if_pos h_8).symm.trans hf
      refine lv_iconst (v := 1) hx hb dd_SH_isFeastOf_26 (by decide) ?_
      refine lv_goto (tgt := 31) hx hb dd_SH_isFeastOf_27 (by decide) ?_
      exact rrZ C0 hP hS (by decide) dd_SH_isFeastOf_31 hf
theorem cc_SH_isFeastOf {l : Launch} {E : Ev} {A : Nat → Prop} {ad : Nat → Nat} (hap : Ap ad ixC A) {x x' : St} {v0 : Nat} {v1 : Int32} {v2 : Int32} {v3 : Int32} {r : Int32} (ho_v0 : isO ixC v0 4) (hf : ff_SH_isFeastOf x v0 v1 v2 v3 = some (r, x')) : Met l yy_SH_isFeastOf (Cond.code yy_SH_isFeastOf bb_SH_isFeastOf 4 (some .boolean) :: gtb) rm_SH_isFeastOf (va_Pc [.ref (ad v0), .int v1, .int v2, .int v3] (PB E A ad ixC x)) (QX E ad ixC A (some (.int r)) x') 0 0 A := by
  exact enter (by decide) (Nat.le_of_ble_eq_true rfl) (fun p e s m below meth c ls C0 hP hS hl => ww_SH_isFeastOf C0 hap ho_v0 hf hP hS hl)
theorem cl_SH_93 {p : Program} {l : Launch} {e : Env} {R : Room} {s : State} {m : MethodId} {args : Array Value} {below : List Frame} {meth : Method} {c : Code} {H : Heap} {locs : List Loc} {cells slots : Nat} {Q : State → Prop} {cc : ByteArray} {pc : Nat} {ls : Array Slot} {rest : List Value} {E : Ev} {A : Nat → Prop} {ad : Nat → Nat} {nL : Nat} {rt : Option FieldType} (C0 : Cx E A RSH cc nL rt p s m args meth c) (hap : Ap ad ixC A) {x x' : St} {v0 : Int32} {v1 : Int32} {v2 : Int32} {r : Int32}  (hc : ff_KI_stepOf x v0 v1 v2 = some (r, x')) (hP : Wd E ad ixC x H) (hS : va_S A s.heap H locs) (hR : rm_KI_stepOf.frames + 1 ≤ R.frames ∧ 8 + (3 + 11) + rm_KI_stepOf.locals ≤ R.locals) (hls : ls.size = nL) (hroom : (rest.map fun v => v.category).sum ≤ 8) (hdg : decode cc pc = .ok (.invokestatic 93, 3)) (hf : cells ≤ R.cells ∧ slots ≤ R.slots) (kk : ∀ H1 locs1, Wd E ad ixC x' H1 → va_S A s.heap H1 locs1 → W p l e R s m args below meth c H1 locs1 cells slots Q (F0 m (pc + 3) ls (.int r :: rest))) : W p l e R s m args below meth c H locs cells slots Q (F0 m pc ls (.int v2 :: .int v1 :: .int v0 :: rest)) :=
  rcS (n := 3) C0 (cc_KI_stepOf hap  hc) hP hS gw_code_KI_stepOf gw_m_SH_93 gw_static_KI_stepOf gw_ini_KI rfl rfl (by decide +kernel) rfl hR hls rfl hroom hdg hf (fun H1 locs1 a _ _ b => kk H1 locs1 a b)
theorem cl_SH_98 {p : Program} {l : Launch} {e : Env} {R : Room} {s : State} {m : MethodId} {args : Array Value} {below : List Frame} {meth : Method} {c : Code} {H : Heap} {locs : List Loc} {cells slots : Nat} {Q : State → Prop} {cc : ByteArray} {pc : Nat} {ls : Array Slot} {rest : List Value} {E : Ev} {A : Nat → Prop} {ad : Nat → Nat} {nL : Nat} {rt : Option FieldType} (C0 : Cx E A RSH cc nL rt p s m args meth c) (hap : Ap ad ixC A) {x x' : St} {v0 : Nat} {v1 : Int32} {v2 : Int32} {v3 : Int32} {r : Int32} (ho_v0 : isO ixC v0 4) (hc : ff_SH_isFeastOf x v0 v1 v2 v3 = some (r, x')) (hP : Wd E ad ixC x H) (hS : va_S A s.heap H locs) (hR : rm_SH_isFeastOf.frames + 1 ≤ R.frames ∧ 8 + (4 + 11) + rm_SH_isFeastOf.locals ≤ R.locals) (hls : ls.size = nL) (hroom : (rest.map fun v => v.category).sum ≤ 8) (hdg : decode cc pc = .ok (.invokevirtual 98, 3)) (hf : cells ≤ R.cells ∧ slots ≤ R.slots) (kk : ∀ H1 locs1, Wd E ad ixC x' H1 → va_S A s.heap H1 locs1 → W p l e R s m args below meth c H1 locs1 cells slots Q (F0 m (pc + 3) ls (.int r :: rest))) : W p l e R s m args below meth c H locs cells slots Q (F0 m pc ls (.int v3 :: .int v2 :: .int v1 :: .ref (ad v0) :: rest)) :=
  rcV (n := 3) C0 (cc_SH_isFeastOf hap ho_v0 hc) hP hS ho_v0 vcl_4 (by decide) gw_code_SH_isFeastOf gw_m_SH_98 gw_inst_SH_isFeastOf gw_sel_SH_isFeastOf gw_ini_SH rfl rfl (by decide +kernel) rfl hR hls rfl hroom hdg hf (fun H1 locs1 a _ _ b => kk H1 locs1 a b)
theorem cl_SH_102 {p : Program} {l : Launch} {e : Env} {R : Room} {s : State} {m : MethodId} {args : Array Value} {below : List Frame} {meth : Method} {c : Code} {H : Heap} {locs : List Loc} {cells slots : Nat} {Q : State → Prop} {cc : ByteArray} {pc : Nat} {ls : Array Slot} {rest : List Value} {E : Ev} {A : Nat → Prop} {ad : Nat → Nat} {nL : Nat} {rt : Option FieldType} (C0 : Cx E A RSH cc nL rt p s m args meth c) (hap : Ap ad ixC A) {x x' : St} {v0 : Int32} {v1 : Int32} {r : Int32}  (hc : ff_KI_feastOf x v0 v1 = some (r, x')) (hP : Wd E ad ixC x H) (hS : va_S A s.heap H locs) (hR : rm_KI_feastOf.frames + 1 ≤ R.frames ∧ 8 + (2 + 11) + rm_KI_feastOf.locals ≤ R.locals) (hls : ls.size = nL) (hroom : (rest.map fun v => v.category).sum ≤ 8) (hdg : decode cc pc = .ok (.invokestatic 102, 3)) (hf : cells ≤ R.cells ∧ slots ≤ R.slots) (kk : ∀ H1 locs1, Wd E ad ixC x' H1 → va_S A s.heap H1 locs1 → W p l e R s m args below meth c H1 locs1 cells slots Q (F0 m (pc + 3) ls (.int r :: rest))) : W p l e R s m args below meth c H locs cells slots Q (F0 m pc ls (.int v1 :: .int v0 :: rest)) :=
  rcS (n := 2) C0 (cc_KI_feastOf hap  hc) hP hS gw_code_KI_feastOf gw_m_SH_102 gw_static_KI_feastOf gw_ini_KI rfl rfl (by decide +kernel) rfl hR hls rfl hroom hdg hf (fun H1 locs1 a _ _ b => kk H1 locs1 a b)
abbrev rm_SH_fillNextGriefs : Room := { frames := 3, cells := 0, slots := 0, locals := 66 }
theorem dd_SH_fillNextGriefs_0 : decode bb_SH_fillNextGriefs 0 = .ok (.aload_n 0, 1) := by decide +kernel
theorem dd_SH_fillNextGriefs_1 : decode bb_SH_fillNextGriefs 1 = .ok (.getfield 14, 3) := by decide +kernel
theorem dd_SH_fillNextGriefs_4 : decode bb_SH_fillNextGriefs 4 = .ok (.iload_n 2, 1) := by decide +kernel
theorem dd_SH_fillNextGriefs_5 : decode bb_SH_fillNextGriefs 5 = .ok (.iconst 0, 1) := by decide +kernel
theorem dd_SH_fillNextGriefs_6 : decode bb_SH_fillNextGriefs 6 = .ok (.invokevirtual 78, 3) := by decide +kernel
theorem dd_SH_fillNextGriefs_9 : decode bb_SH_fillNextGriefs 9 = .ok (.istore 4, 2) := by decide +kernel
theorem dd_SH_fillNextGriefs_11 : decode bb_SH_fillNextGriefs 11 = .ok (.iconst 0, 1) := by decide +kernel
theorem dd_SH_fillNextGriefs_12 : decode bb_SH_fillNextGriefs 12 = .ok (.istore 5, 2) := by decide +kernel
theorem dd_SH_fillNextGriefs_14 : decode bb_SH_fillNextGriefs 14 = .ok (.iload 5, 2) := by decide +kernel
theorem dd_SH_fillNextGriefs_16 : decode bb_SH_fillNextGriefs 16 = .ok (.bipush 100, 2) := by decide +kernel
theorem dd_SH_fillNextGriefs_18 : decode bb_SH_fillNextGriefs 18 = .ok (.if_icmp .ge 21, 3) := by decide +kernel
theorem dd_SH_fillNextGriefs_21 : decode bb_SH_fillNextGriefs 21 = .ok (.aload_n 1, 1) := by decide +kernel
theorem dd_SH_fillNextGriefs_22 : decode bb_SH_fillNextGriefs 22 = .ok (.iload 5, 2) := by decide +kernel
theorem dd_SH_fillNextGriefs_24 : decode bb_SH_fillNextGriefs 24 = .ok (.iload 4, 2) := by decide +kernel
theorem dd_SH_fillNextGriefs_26 : decode bb_SH_fillNextGriefs 26 = .ok (.iload 5, 2) := by decide +kernel
theorem dd_SH_fillNextGriefs_28 : decode bb_SH_fillNextGriefs 28 = .ok (.iload_n 3, 1) := by decide +kernel
theorem dd_SH_fillNextGriefs_29 : decode bb_SH_fillNextGriefs 29 = .ok (.invokestatic 93, 3) := by decide +kernel
theorem dd_SH_fillNextGriefs_32 : decode bb_SH_fillNextGriefs 32 = .ok (.iastore, 1) := by decide +kernel
theorem dd_SH_fillNextGriefs_33 : decode bb_SH_fillNextGriefs 33 = .ok (.iinc 5 1, 3) := by decide +kernel
theorem dd_SH_fillNextGriefs_36 : decode bb_SH_fillNextGriefs 36 = .ok (.goto (-22), 3) := by decide +kernel
theorem dd_SH_fillNextGriefs_39 : decode bb_SH_fillNextGriefs 39 = .ok (.iconst 0, 1) := by decide +kernel
theorem dd_SH_fillNextGriefs_40 : decode bb_SH_fillNextGriefs 40 = .ok (.istore 5, 2) := by decide +kernel
theorem dd_SH_fillNextGriefs_42 : decode bb_SH_fillNextGriefs 42 = .ok (.iload 5, 2) := by decide +kernel
theorem dd_SH_fillNextGriefs_44 : decode bb_SH_fillNextGriefs 44 = .ok (.aload_n 0, 1) := by decide +kernel
theorem dd_SH_fillNextGriefs_45 : decode bb_SH_fillNextGriefs 45 = .ok (.getfield 26, 3) := by decide +kernel
theorem dd_SH_fillNextGriefs_48 : decode bb_SH_fillNextGriefs 48 = .ok (.getfield 50, 3) := by decide +kernel
theorem dd_SH_fillNextGriefs_51 : decode bb_SH_fillNextGriefs 51 = .ok (.if_icmp .ge 57, 3) := by decide +kernel
theorem dd_SH_fillNextGriefs_54 : decode bb_SH_fillNextGriefs 54 = .ok (.aload_n 0, 1) := by decide +kernel
theorem dd_SH_fillNextGriefs_55 : decode bb_SH_fillNextGriefs 55 = .ok (.iload 5, 2) := by decide +kernel
theorem dd_SH_fillNextGriefs_57 : decode bb_SH_fillNextGriefs 57 = .ok (.iload_n 2, 1) := by decide +kernel
theorem dd_SH_fillNextGriefs_58 : decode bb_SH_fillNextGriefs 58 = .ok (.iload_n 3, 1) := by decide +kernel
theorem dd_SH_fillNextGriefs_59 : decode bb_SH_fillNextGriefs 59 = .ok (.invokevirtual 98, 3) := by decide +kernel
theorem dd_SH_fillNextGriefs_62 : decode bb_SH_fillNextGriefs 62 = .ok (.ifCond .eq 40, 3) := by decide +kernel
theorem dd_SH_fillNextGriefs_65 : decode bb_SH_fillNextGriefs 65 = .ok (.iconst 0, 1) := by decide +kernel
theorem dd_SH_fillNextGriefs_66 : decode bb_SH_fillNextGriefs 66 = .ok (.istore 6, 2) := by decide +kernel
theorem dd_SH_fillNextGriefs_68 : decode bb_SH_fillNextGriefs 68 = .ok (.iload 6, 2) := by decide +kernel
theorem dd_SH_fillNextGriefs_70 : decode bb_SH_fillNextGriefs 70 = .ok (.bipush 100, 2) := by decide +kernel
theorem dd_SH_fillNextGriefs_72 : decode bb_SH_fillNextGriefs 72 = .ok (.if_icmp .ge 30, 3) := by decide +kernel
theorem dd_SH_fillNextGriefs_75 : decode bb_SH_fillNextGriefs 75 = .ok (.aload_n 1, 1) := by decide +kernel
theorem dd_SH_fillNextGriefs_76 : decode bb_SH_fillNextGriefs 76 = .ok (.iload 6, 2) := by decide +kernel
theorem dd_SH_fillNextGriefs_78 : decode bb_SH_fillNextGriefs 78 = .ok (.aload_n 0, 1) := by decide +kernel
theorem dd_SH_fillNextGriefs_79 : decode bb_SH_fillNextGriefs 79 = .ok (.getfield 26, 3) := by decide +kernel
theorem dd_SH_fillNextGriefs_82 : decode bb_SH_fillNextGriefs 82 = .ok (.iload 5, 2) := by decide +kernel
theorem dd_SH_fillNextGriefs_84 : decode bb_SH_fillNextGriefs 84 = .ok (.iconst 0, 1) := by decide +kernel
theorem dd_SH_fillNextGriefs_85 : decode bb_SH_fillNextGriefs 85 = .ok (.invokevirtual 78, 3) := by decide +kernel
theorem dd_SH_fillNextGriefs_88 : decode bb_SH_fillNextGriefs 88 = .ok (.aload_n 1, 1) := by decide +kernel
theorem dd_SH_fillNextGriefs_89 : decode bb_SH_fillNextGriefs 89 = .ok (.iload 6, 2) := by decide +kernel
theorem dd_SH_fillNextGriefs_91 : decode bb_SH_fillNextGriefs 91 = .ok (.iaload, 1) := by decide +kernel
theorem dd_SH_fillNextGriefs_92 : decode bb_SH_fillNextGriefs 92 = .ok (.invokestatic 102, 3) := by decide +kernel
theorem dd_SH_fillNextGriefs_95 : decode bb_SH_fillNextGriefs 95 = .ok (.iastore, 1) := by decide +kernel
theorem dd_SH_fillNextGriefs_96 : decode bb_SH_fillNextGriefs 96 = .ok (.iinc 6 1, 3) := by decide +kernel
theorem dd_SH_fillNextGriefs_99 : decode bb_SH_fillNextGriefs 99 = .ok (.goto (-31), 3) := by decide +kernel
theorem dd_SH_fillNextGriefs_102 : decode bb_SH_fillNextGriefs 102 = .ok (.iinc 5 1, 3) := by decide +kernel
theorem dd_SH_fillNextGriefs_105 : decode bb_SH_fillNextGriefs 105 = .ok (.goto (-63), 3) := by decide +kernel
theorem dd_SH_fillNextGriefs_108 : decode bb_SH_fillNextGriefs 108 = .ok (.return_, 1) := by decide +kernel
def ff_SH_fillNextGriefs_68 (k_42 : St → Nat → Nat → Int32 → Int32 → Int32 → Option (Unit × St)) : Nat → St → Nat → Nat → Int32 → Int32 → Int32 → Int32 → Option (Unit × St)
  | 0, _, _, _, _, _, _, _ => none
  | n + 1, x, v0, v1, v2, v3, v5, v6 => (if 100 ≤ v6 then k_42 x v0 v1 v2 v3 (v5 + 1) else bnd (ff_LE_at x (rf v0 3) v5 0) (fun r_11 x_12 => (if ixb v6 (ln v1) = true then bnd (ff_KI_feastOf x_12 r_11 (gi x_12 v1 (ix v6))) (fun r_15 x_16 => (if ixb v6 (ln v1) = true then st (si x_16 v1 (ix v6) r_15) (fun x_19 => ff_SH_fillNextGriefs_68 k_42 n x_19 v0 v1 v2 v3 v5 (v6 + 1)) else none)) else none)))
def ff_SH_fillNextGriefs_42  : Nat → St → Nat → Nat → Int32 → Int32 → Int32 → Option (Unit × St)
  | 0, _, _, _, _, _, _ => none
  | n + 1, x, v0, v1, v2, v3, v5 => (if (gi x (rf v0 3) 3) ≤ v5 then some ((), x) else bnd (ff_SH_isFeastOf x v0 v5 v2 v3) (fun r_6 x_7 => (if r_6 = 0 then ff_SH_fillNextGriefs_42 n x_7 v0 v1 v2 v3 (v5 + 1) else ff_SH_fillNextGriefs_68 (ff_SH_fillNextGriefs_42 n) FU x_7 v0 v1 v2 v3 v5 0)))
def ff_SH_fillNextGriefs_14  : Nat → St → Nat → Nat → Int32 → Int32 → Int32 → Int32 → Option (Unit × St)
  | 0, _, _, _, _, _, _, _ => none
  | n + 1, x, v0, v1, v2, v3, v4, v5 => (if 100 ≤ v5 then ff_SH_fillNextGriefs_42 FU x v0 v1 v2 v3 0 else bnd (ff_KI_stepOf x v4 v5 v3) (fun r_20 x_21 => (if ixb v5 (ln v1) = true then st (si x_21 v1 (ix v5) r_20) (fun x_24 => ff_SH_fillNextGriefs_14 n x_24 v0 v1 v2 v3 v4 (v5 + 1)) else none)))
def ff_SH_fillNextGriefs  (x : St) (v0 : Nat) (v1 : Nat) (v2 : Int32) (v3 : Int32) : Option (Unit × St) := bnd (ff_LE_at x (rf v0 0) v2 0) (fun r_1 x_2 => ff_SH_fillNextGriefs_14 FU x_2 v0 v1 v2 v3 r_1 0)
set_option maxHeartbeats 4000000 in
set_option maxRecDepth 100000 in
theorem ww_SH_fillNextGriefs_68 {p : Program} {l : Launch} {e : Env} {s : State} {m : MethodId} {args : Array Value} {below : List Frame} {meth : Method} {c : Code} {E : Ev} {A : Nat → Prop} {ad : Nat → Nat} {r : Unit} {x' : St} (C0 : Cx E A RSH bb_SH_fillNextGriefs 7 (none) p s m args meth c) (hap : Ap ad ixC A) {k_42 : St → Nat → Nat → Int32 → Int32 → Int32 → Option (Unit × St)} (hk_42 : ∀ (x : St) (v0 : Nat) (v1 : Nat) (v2 : Int32) (v3 : Int32) (v5 : Int32), (isO ixC v0 4) → (isO ixC v1 20) → k_42 x v0 v1 v2 v3 v5 = some (r, x') → ∀ (H : Heap) (locs : List Loc) (ls : Array Slot), Wd E ad ixC x H → va_S A s.heap H locs → lv_has ls 7 [(0, .ref (ad v0)), (1, .ref (ad v1)), (2, .int v2), (3, .int v3), (5, .int v5)] → W p l e rm_SH_fillNextGriefs s m args below meth c H locs 0 0 (MQ below (QX E ad ixC A (none) x') args s 0 0 A) (F0 m 42 ls [])) : ∀ (n : Nat), ∀ (x : St) (v0 : Nat) (v1 : Nat) (v2 : Int32) (v3 : Int32) (v5 : Int32) (v6 : Int32), (isO ixC v0 4) → (isO ixC v1 20) → ff_SH_fillNextGriefs_68 k_42 n x v0 v1 v2 v3 v5 v6 = some (r, x') → ∀ (H : Heap) (locs : List Loc) (ls : Array Slot), Wd E ad ixC x H → va_S A s.heap H locs → lv_has ls 7 [(0, .ref (ad v0)), (1, .ref (ad v1)), (2, .int v2), (3, .int v3), (5, .int v5), (6, .int v6)] → W p l e rm_SH_fillNextGriefs s m args below meth c H locs 0 0 (MQ below (QX E ad ixC A (none) x') args s 0 0 A) (F0 m 68 ls []) := by
  obtain ⟨hx, hb, hml, hr, hown, hts, hlk, hK⟩ := id C0
  intro n
  induction n with
  | zero => intro x v0 v1 v2 v3 v5 v6 ho_v0 ho_v1 hf; exact of_no hf
  | succ n ih =>
    intro x v0 v1 v2 v3 v5 v6 ho_v0 ho_v1 hf H locs ls hP hS hl
    have hf : (if 100 ≤ v6 then k_42 x v0 v1 v2 v3 (v5 + 1) else bnd (ff_LE_at x (rf v0 3) v5 0) (fun r_11 x_12 => (if ixb v6 (ln v1) = true then bnd (ff_KI_feastOf x_12 r_11 (gi x_12 v1 (ix v6))) (fun r_15 x_16 => (if ixb v6 (ln v1) = true then st (si x_16 v1 (ix v6) r_15) (fun x_19 => ff_SH_fillNextGriefs_68 k_42 n x_19 v0 v1 v2 v3 v5 (v6 + 1)) else none)) else none))) = some (r, x') := hf
    refine lv_iload hx hb dd_SH_fillNextGriefs_68 (lv_at hl 5 rfl) ?_
    refine lv_bipush (v := 100) hx hb dd_SH_fillNextGriefs_70 (by decide) ?_
    refine lv_icmp_ge (tgt := 102) hx hb dd_SH_fillNextGriefs_72 (by decide) (fun h_10 => ?_) (fun h_10 => ?_)
    · have hf := (if_pos h_10).symm.trans hf
      refine lv_iinc (v := v5 + 1) (lv' := [(5, .int (v5 + 1)), (0, .ref (ad v0)), (1, .ref (ad v1)), (2, .int v2), (3, .int v3), (6, .int v6)]) hx hb dd_SH_fillNextGriefs_102 hl (k := 4) rfl rfl (by decide) rfl (fun ls hl => ?_)
      refine lv_goto (tgt := 42) hx hb dd_SH_fillNextGriefs_105 (by decide) ?_
      exact hk_42 x v0 v1 v2 v3 (v5 + 1) ho_v0 ho_v1 hf _ _ _ hP hS (lv_sub hl [1, 2, 3, 4, 0] rfl)
    · have hf := (if_neg h_10).symm.trans hf
      refine lv_aload_n hx hb dd_SH_fillNextGriefs_75 rfl (lv_at hl 1 rfl) ?_
      refine lv_iload hx hb dd_SH_fillNextGriefs_76 (lv_at hl 5 rfl) ?_
      refine lv_aload_n hx hb dd_SH_fillNextGriefs_78 rfl (lv_at hl 0 rfl) ?_
      refine gf_SH_26 C0 hP ho_v0 dd_SH_fillNextGriefs_79 ?_
      refine lv_iload hx hb dd_SH_fillNextGriefs_82 (lv_at hl 4 rfl) ?_
      refine lv_iconst (v := 0) hx hb dd_SH_fillNextGriefs_84 (by decide) ?_
      obtain ⟨r_11, x_12, c_13, hf⟩ := of_bnd hf
      refine cl_SH_78 C0 hap (tp_4_3 ho_v0) c_13 hP hS ⟨Nat.le_of_ble_eq_true rfl, Nat.le_of_ble_eq_true rfl⟩ hl.1 (Nat.le_of_ble_eq_true rfl) dd_SH_fillNextGriefs_85 ⟨Nat.le_refl _, Nat.le_refl _⟩ (fun H locs hP hS => ?_)
      refine lv_aload_n hx hb dd_SH_fillNextGriefs_88 rfl (lv_at hl 1 rfl) ?_
      refine lv_iload hx hb dd_SH_fillNextGriefs_89 (lv_at hl 5 rfl) ?_
      obtain ⟨h_14, hf⟩ := of_ifb hf
      refine raI C0 hP ho_v1 h_14 dd_SH_fillNextGriefs_91 ?_
      obtain ⟨r_15, x_16, c_17, hf⟩ := of_bnd hf
      refine cl_SH_102 C0 hap  c_17 hP hS ⟨Nat.le_of_ble_eq_true rfl, Nat.le_of_ble_eq_true rfl⟩ hl.1 (Nat.le_of_ble_eq_true rfl) dd_SH_fillNextGriefs_92 ⟨Nat.le_refl _, Nat.le_refl _⟩ (fun H locs hP hS => ?_)
      obtain ⟨h_18, hf⟩ := of_ifb hf
      obtain ⟨x_19, hx_19, hf⟩ := of_st hf
      refine sI C0 hap hP hS ho_v1 h_18 hx_19 dd_SH_fillNextGriefs_95 (fun H locs hP hS => ?_)
      refine lv_iinc (v := v6 + 1) (lv' := [(6, .int (v6 + 1)), (0, .ref (ad v0)), (1, .ref (ad v1)), (2, .int v2), (3, .int v3), (5, .int v5)]) hx hb dd_SH_fillNextGriefs_96 hl (k := 5) rfl rfl (by decide) rfl (fun ls hl => ?_)
      refine lv_goto (tgt := 68) hx hb dd_SH_fillNextGriefs_99 (by decide) ?_
      exact ih x_19 v0 v1 v2 v3 v5 (v6 + 1) ho_v0 ho_v1 hf _ _ _ hP hS (lv_sub hl [1, 2, 3, 4, 5, 0] rfl)
set_option maxHeartbeats 4000000 in
set_option maxRecDepth 100000 in
theorem ww_SH_fillNextGriefs_42 {p : Program} {l : Launch} {e : Env} {s : State} {m : MethodId} {args : Array Value} {below : List Frame} {meth : Method} {c : Code} {E : Ev} {A : Nat → Prop} {ad : Nat → Nat} {r : Unit} {x' : St} (C0 : Cx E A RSH bb_SH_fillNextGriefs 7 (none) p s m args meth c) (hap : Ap ad ixC A)  : ∀ (n : Nat), ∀ (x : St) (v0 : Nat) (v1 : Nat) (v2 : Int32) (v3 : Int32) (v5 : Int32), (isO ixC v0 4) → (isO ixC v1 20) → ff_SH_fillNextGriefs_42 n x v0 v1 v2 v3 v5 = some (r, x') → ∀ (H : Heap) (locs : List Loc) (ls : Array Slot), Wd E ad ixC x H → va_S A s.heap H locs → lv_has ls 7 [(0, .ref (ad v0)), (1, .ref (ad v1)), (2, .int v2), (3, .int v3), (5, .int v5)] → W p l e rm_SH_fillNextGriefs s m args below meth c H locs 0 0 (MQ below (QX E ad ixC A (none) x') args s 0 0 A) (F0 m 42 ls []) := by
  obtain ⟨hx, hb, hml, hr, hown, hts, hlk, hK⟩ := id C0
  intro n
  induction n with
  | zero => intro x v0 v1 v2 v3 v5 ho_v0 ho_v1 hf; exact of_no hf
  | succ n ih =>
    intro x v0 v1 v2 v3 v5 ho_v0 ho_v1 hf H locs ls hP hS hl
    have hf : (if (gi x (rf v0 3) 3) ≤ v5 then some ((), x) else bnd (ff_SH_isFeastOf x v0 v5 v2 v3) (fun r_6 x_7 => (if r_6 = 0 then ff_SH_fillNextGriefs_42 n x_7 v0 v1 v2 v3 (v5 + 1) else ff_SH_fillNextGriefs_68 (ff_SH_fillNextGriefs_42 n) FU x_7 v0 v1 v2 v3 v5 0))) = some (r, x') := hf
    refine lv_iload hx hb dd_SH_fillNextGriefs_42 (lv_at hl 4 rfl) ?_
    refine lv_aload_n hx hb dd_SH_fillNextGriefs_44 rfl (lv_at hl 0 rfl) ?_
    refine gf_SH_26 C0 hP ho_v0 dd_SH_fillNextGriefs_45 ?_
    refine gf_SH_50 C0 hP (tp_4_3 ho_v0) dd_SH_fillNextGriefs_48 ?_
    refine lv_icmp_ge (tgt := 108) hx hb dd_SH_fillNextGriefs_51 (by decide) (fun h_5 => ?_) (fun h_5 => ?_)
    · have hf := (if_pos h_5).symm.trans hf
      exact rrV C0 hP hS dd_SH_fillNextGriefs_108 hf
    · have hf := (if_neg h_5).symm.trans hf
      refine lv_aload_n hx hb dd_SH_fillNextGriefs_54 rfl (lv_at hl 0 rfl) ?_
      refine lv_iload hx hb dd_SH_fillNextGriefs_55 (lv_at hl 4 rfl) ?_
      refine lv_iload_n hx hb dd_SH_fillNextGriefs_57 rfl (lv_at hl 2 rfl) ?_
      refine lv_iload_n hx hb dd_SH_fillNextGriefs_58 rfl (lv_at hl 3 rfl) ?_
      obtain ⟨r_6, x_7, c_8, hf⟩ := of_bnd hf
      refine cl_SH_98 C0 hap ho_v0 c_8 hP hS ⟨Nat.le_of_ble_eq_true rfl, Nat.le_of_ble_eq_true rfl⟩ hl.1 (Nat.le_of_ble_eq_true rfl) dd_SH_fillNextGriefs_59 ⟨Nat.le_refl _, Nat.le_refl _⟩ (fun H locs hP hS => ?_)
      refine lv_if_eq (tgt := 102) hx hb dd_SH_fillNextGriefs_62 (by decide) (fun h_9 => ?_) (fun h_9 => ?_)
      · have hf := (if_pos h_9).symm.trans hf
        refine lv_iinc (v := v5 + 1) (lv' := [(5, .int (v5 + 1)), (0, .ref (ad v0)), (1, .ref (ad v1)), (2, .int v2), (3, .int v3)]) hx hb dd_SH_fillNextGriefs_102 hl (k := 4) rfl rfl (by decide) rfl (fun ls hl => ?_)
        refine lv_goto (tgt := 42) hx hb dd_SH_fillNextGriefs_105 (by decide) ?_
        exact ih x_7 v0 v1 v2 v3 (v5 + 1) ho_v0 ho_v1 hf _ _ _ hP hS (lv_sub hl [1, 2, 3, 4, 0] rfl)
      · have hf := (if_neg h_9).symm.trans hf
        refine lv_iconst (v := 0) hx hb dd_SH_fillNextGriefs_65 (by decide) ?_
        refine lv_istore (lv' := [(6, .int 0), (0, .ref (ad v0)), (1, .ref (ad v1)), (2, .int v2), (3, .int v3), (5, .int v5)]) hx hb dd_SH_fillNextGriefs_66 hl (by decide) rfl (fun ls hl => ?_)
        exact ww_SH_fillNextGriefs_68 C0 hap ih FU x_7 v0 v1 v2 v3 v5 0 ho_v0 ho_v1 hf _ _ _ hP hS (lv_sub hl [1, 2, 3, 4, 5, 0] rfl)
set_option maxHeartbeats 4000000 in
set_option maxRecDepth 100000 in
theorem ww_SH_fillNextGriefs_14 {p : Program} {l : Launch} {e : Env} {s : State} {m : MethodId} {args : Array Value} {below : List Frame} {meth : Method} {c : Code} {E : Ev} {A : Nat → Prop} {ad : Nat → Nat} {r : Unit} {x' : St} (C0 : Cx E A RSH bb_SH_fillNextGriefs 7 (none) p s m args meth c) (hap : Ap ad ixC A)  : ∀ (n : Nat), ∀ (x : St) (v0 : Nat) (v1 : Nat) (v2 : Int32) (v3 : Int32) (v4 : Int32) (v5 : Int32), (isO ixC v0 4) → (isO ixC v1 20) → ff_SH_fillNextGriefs_14 n x v0 v1 v2 v3 v4 v5 = some (r, x') → ∀ (H : Heap) (locs : List Loc) (ls : Array Slot), Wd E ad ixC x H → va_S A s.heap H locs → lv_has ls 7 [(0, .ref (ad v0)), (1, .ref (ad v1)), (2, .int v2), (3, .int v3), (4, .int v4), (5, .int v5)] → W p l e rm_SH_fillNextGriefs s m args below meth c H locs 0 0 (MQ below (QX E ad ixC A (none) x') args s 0 0 A) (F0 m 14 ls []) := by
  obtain ⟨hx, hb, hml, hr, hown, hts, hlk, hK⟩ := id C0
  intro n
  induction n with
  | zero => intro x v0 v1 v2 v3 v4 v5 ho_v0 ho_v1 hf; exact of_no hf
  | succ n ih =>
    intro x v0 v1 v2 v3 v4 v5 ho_v0 ho_v1 hf H locs ls hP hS hl
    have hf : (if 100 ≤ v5 then ff_SH_fillNextGriefs_42 FU x v0 v1 v2 v3 0 else bnd (ff_KI_stepOf x v4 v5 v3) (fun r_20 x_21 => (if ixb v5 (ln v1) = true then st (si x_21 v1 (ix v5) r_20) (fun x_24 => ff_SH_fillNextGriefs_14 n x_24 v0 v1 v2 v3 v4 (v5 + 1)) else none))) = some (r, x') := hf
    refine lv_iload hx hb dd_SH_fillNextGriefs_14 (lv_at hl 5 rfl) ?_
    refine lv_bipush (v := 100) hx hb dd_SH_fillNextGriefs_16 (by decide) ?_
    refine lv_icmp_ge (tgt := 39) hx hb dd_SH_fillNextGriefs_18 (by decide) (fun h_4 => ?_) (fun h_4 => ?_)
    · have hf := (if_pos h_4).symm.trans hf
      refine lv_iconst (v := 0) hx hb dd_SH_fillNextGriefs_39 (by decide) ?_
      refine lv_istore (lv' := [(5, .int 0), (0, .ref (ad v0)), (1, .ref (ad v1)), (2, .int v2), (3, .int v3), (4, .int v4)]) hx hb dd_SH_fillNextGriefs_40 hl (by decide) rfl (fun ls hl => ?_)
      exact ww_SH_fillNextGriefs_42 C0 hap  FU x v0 v1 v2 v3 0 ho_v0 ho_v1 hf _ _ _ hP hS (lv_sub hl [1, 2, 3, 4, 0] rfl)
    · have hf := (if_neg h_4).symm.trans hf
      refine lv_aload_n hx hb dd_SH_fillNextGriefs_21 rfl (lv_at hl 1 rfl) ?_
      refine lv_iload hx hb dd_SH_fillNextGriefs_22 (lv_at hl 5 rfl) ?_
      refine lv_iload hx hb dd_SH_fillNextGriefs_24 (lv_at hl 4 rfl) ?_
      refine lv_iload hx hb dd_SH_fillNextGriefs_26 (lv_at hl 5 rfl) ?_
      refine lv_iload_n hx hb dd_SH_fillNextGriefs_28 rfl (lv_at hl 3 rfl) ?_
      obtain ⟨r_20, x_21, c_22, hf⟩ := of_bnd hf
      refine cl_SH_93 C0 hap  c_22 hP hS ⟨Nat.le_of_ble_eq_true rfl, Nat.le_of_ble_eq_true rfl⟩ hl.1 (Nat.le_of_ble_eq_true rfl) dd_SH_fillNextGriefs_29 ⟨Nat.le_refl _, Nat.le_refl _⟩ (fun H locs hP hS => ?_)
      obtain ⟨h_23, hf⟩ := of_ifb hf
      obtain ⟨x_24, hx_24, hf⟩ := of_st hf
      refine sI C0 hap hP hS ho_v1 h_23 hx_24 dd_SH_fillNextGriefs_32 (fun H locs hP hS => ?_)
      refine lv_iinc (v := v5 + 1) (lv' := [(5, .int (v5 + 1)), (0, .ref (ad v0)), (1, .ref (ad v1)), (2, .int v2), (3, .int v3), (4, .int v4)]) hx hb dd_SH_fillNextGriefs_33 hl (k := 5) rfl rfl (by decide) rfl (fun ls hl => ?_)
      refine lv_goto (tgt := 14) hx hb dd_SH_fillNextGriefs_36 (by decide) ?_
      exact ih x_24 v0 v1 v2 v3 v4 (v5 + 1) ho_v0 ho_v1 hf _ _ _ hP hS (lv_sub hl [1, 2, 3, 4, 5, 0] rfl)
set_option maxHeartbeats 4000000 in
set_option maxRecDepth 100000 in
theorem ww_SH_fillNextGriefs {p : Program} {l : Launch} {e : Env} {s : State} {m : MethodId} {args : Array Value} {below : List Frame} {meth : Method} {c : Code} {E : Ev} {A : Nat → Prop} {ad : Nat → Nat} {r : Unit} {x' : St} (C0 : Cx E A RSH bb_SH_fillNextGriefs 7 (none) p s m args meth c) (hap : Ap ad ixC A)  {x : St} {v0 : Nat} {v1 : Nat} {v2 : Int32} {v3 : Int32} (ho_v0 : isO ixC v0 4) (ho_v1 : isO ixC v1 20) (hf : ff_SH_fillNextGriefs x v0 v1 v2 v3 = some (r, x')) {H : Heap} {locs : List Loc} {ls : Array Slot} (hP : Wd E ad ixC x H) (hS : va_S A s.heap H locs) (hl : lv_has ls 7 [(0, .ref (ad v0)), (1, .ref (ad v1)), (2, .int v2), (3, .int v3)]) : W p l e rm_SH_fillNextGriefs s m args below meth c H locs 0 0 (MQ below (QX E ad ixC A (none) x') args s 0 0 A) (F0 m 0 ls []) := by
  obtain ⟨hx, hb, hml, hr, hown, hts, hlk, hK⟩ := id C0
  have hf : bnd (ff_LE_at x (rf v0 0) v2 0) (fun r_1 x_2 => ff_SH_fillNextGriefs_14 FU x_2 v0 v1 v2 v3 r_1 0) = some (r, x') := hf
  refine lv_aload_n hx hb dd_SH_fillNextGriefs_0 rfl (lv_at hl 0 rfl) ?_
  refine gf_SH_14 C0 hP ho_v0 dd_SH_fillNextGriefs_1 ?_
  refine lv_iload_n hx hb dd_SH_fillNextGriefs_4 rfl (lv_at hl 2 rfl) ?_
  refine lv_iconst (v := 0) hx hb dd_SH_fillNextGriefs_5 (by decide) ?_
  obtain ⟨r_1, x_2, c_3, hf⟩ := of_bnd hf
  refine cl_SH_78 C0 hap (tp_4_0 ho_v0) c_3 hP hS ⟨Nat.le_of_ble_eq_true rfl, Nat.le_of_ble_eq_true rfl⟩ hl.1 (Nat.le_of_ble_eq_true rfl) dd_SH_fillNextGriefs_6 ⟨Nat.le_refl _, Nat.le_refl _⟩ (fun H locs hP hS => ?_)
  refine lv_istore (lv' := [(4, .int r_1), (0, .ref (ad v0)), (1, .ref (ad v1)), (2, .int v2), (3, .int v3)]) hx hb dd_SH_fillNextGriefs_9 hl (by decide) rfl (fun ls hl => ?_)
  refine lv_iconst (v := 0) hx hb dd_SH_fillNextGriefs_11 (by decide) ?_
  refine lv_istore (lv' := [(5, .int 0), (4, .int r_1), (0, .ref (ad v0)), (1, .ref (ad v1)), (2, .int v2), (3, .int v3)]) hx hb dd_SH_fillNextGriefs_12 hl (by decide) rfl (fun ls hl => ?_)
  exact ww_SH_fillNextGriefs_14 C0 hap  FU x_2 v0 v1 v2 v3 r_1 0 ho_v0 ho_v1 hf _ _ _ hP hS (lv_sub hl [2, 3, 4, 5, 1, 0] rfl)
theorem cc_SH_fillNextGriefs {l : Launch} {E : Ev} {A : Nat → Prop} {ad : Nat → Nat} (hap : Ap ad ixC A) {x x' : St} {v0 : Nat} {v1 : Nat} {v2 : Int32} {v3 : Int32} {r : Unit} (ho_v0 : isO ixC v0 4) (ho_v1 : isO ixC v1 20) (hf : ff_SH_fillNextGriefs x v0 v1 v2 v3 = some (r, x')) : Met l yy_SH_fillNextGriefs (Cond.code yy_SH_fillNextGriefs bb_SH_fillNextGriefs 7 (none) :: gtb) rm_SH_fillNextGriefs (va_Pc [.ref (ad v0), .ref (ad v1), .int v2, .int v3] (PB E A ad ixC x)) (QX E ad ixC A (none) x') 0 0 A := by
  exact enter (by decide) (Nat.le_of_ble_eq_true rfl) (fun p e s m below meth c ls C0 hP hS hl => ww_SH_fillNextGriefs C0 hap ho_v0 ho_v1 hf hP hS hl)
abbrev rm_SH_fillGriefs : Room := { frames := 3, cells := 0, slots := 0, locals := 66 }
theorem dd_SH_fillGriefs_0 : decode bb_SH_fillGriefs 0 = .ok (.aload_n 0, 1) := by decide +kernel
theorem dd_SH_fillGriefs_1 : decode bb_SH_fillGriefs 1 = .ok (.getfield 14, 3) := by decide +kernel
theorem dd_SH_fillGriefs_4 : decode bb_SH_fillGriefs 4 = .ok (.iload_n 2, 1) := by decide +kernel
theorem dd_SH_fillGriefs_5 : decode bb_SH_fillGriefs 5 = .ok (.iconst 0, 1) := by decide +kernel
theorem dd_SH_fillGriefs_6 : decode bb_SH_fillGriefs 6 = .ok (.invokevirtual 78, 3) := by decide +kernel
theorem dd_SH_fillGriefs_9 : decode bb_SH_fillGriefs 9 = .ok (.istore 4, 2) := by decide +kernel
theorem dd_SH_fillGriefs_11 : decode bb_SH_fillGriefs 11 = .ok (.aload_n 0, 1) := by decide +kernel
theorem dd_SH_fillGriefs_12 : decode bb_SH_fillGriefs 12 = .ok (.getfield 14, 3) := by decide +kernel
theorem dd_SH_fillGriefs_15 : decode bb_SH_fillGriefs 15 = .ok (.iload_n 2, 1) := by decide +kernel
theorem dd_SH_fillGriefs_16 : decode bb_SH_fillGriefs 16 = .ok (.iconst 1, 1) := by decide +kernel
theorem dd_SH_fillGriefs_17 : decode bb_SH_fillGriefs 17 = .ok (.invokevirtual 78, 3) := by decide +kernel
theorem dd_SH_fillGriefs_20 : decode bb_SH_fillGriefs 20 = .ok (.istore 5, 2) := by decide +kernel
theorem dd_SH_fillGriefs_22 : decode bb_SH_fillGriefs 22 = .ok (.aload_n 1, 1) := by decide +kernel
theorem dd_SH_fillGriefs_23 : decode bb_SH_fillGriefs 23 = .ok (.iconst 0, 1) := by decide +kernel
theorem dd_SH_fillGriefs_24 : decode bb_SH_fillGriefs 24 = .ok (.iload 5, 2) := by decide +kernel
theorem dd_SH_fillGriefs_26 : decode bb_SH_fillGriefs 26 = .ok (.iastore, 1) := by decide +kernel
theorem dd_SH_fillGriefs_27 : decode bb_SH_fillGriefs 27 = .ok (.iconst 1, 1) := by decide +kernel
theorem dd_SH_fillGriefs_28 : decode bb_SH_fillGriefs 28 = .ok (.istore 6, 2) := by decide +kernel
theorem dd_SH_fillGriefs_30 : decode bb_SH_fillGriefs 30 = .ok (.iload 6, 2) := by decide +kernel
theorem dd_SH_fillGriefs_32 : decode bb_SH_fillGriefs 32 = .ok (.bipush 100, 2) := by decide +kernel
theorem dd_SH_fillGriefs_34 : decode bb_SH_fillGriefs 34 = .ok (.if_icmp .ge 82, 3) := by decide +kernel
theorem dd_SH_fillGriefs_37 : decode bb_SH_fillGriefs 37 = .ok (.iload 4, 2) := by decide +kernel
theorem dd_SH_fillGriefs_39 : decode bb_SH_fillGriefs 39 = .ok (.iload 5, 2) := by decide +kernel
theorem dd_SH_fillGriefs_41 : decode bb_SH_fillGriefs 41 = .ok (.iload 6, 2) := by decide +kernel
theorem dd_SH_fillGriefs_43 : decode bb_SH_fillGriefs 43 = .ok (.invokestatic 93, 3) := by decide +kernel
theorem dd_SH_fillGriefs_46 : decode bb_SH_fillGriefs 46 = .ok (.istore 5, 2) := by decide +kernel
theorem dd_SH_fillGriefs_48 : decode bb_SH_fillGriefs 48 = .ok (.iconst 0, 1) := by decide +kernel
theorem dd_SH_fillGriefs_49 : decode bb_SH_fillGriefs 49 = .ok (.istore 7, 2) := by decide +kernel
theorem dd_SH_fillGriefs_51 : decode bb_SH_fillGriefs 51 = .ok (.iload 7, 2) := by decide +kernel
theorem dd_SH_fillGriefs_53 : decode bb_SH_fillGriefs 53 = .ok (.aload_n 0, 1) := by decide +kernel
theorem dd_SH_fillGriefs_54 : decode bb_SH_fillGriefs 54 = .ok (.getfield 26, 3) := by decide +kernel
theorem dd_SH_fillGriefs_57 : decode bb_SH_fillGriefs 57 = .ok (.getfield 50, 3) := by decide +kernel
theorem dd_SH_fillGriefs_60 : decode bb_SH_fillGriefs 60 = .ok (.if_icmp .ge 44, 3) := by decide +kernel
theorem dd_SH_fillGriefs_63 : decode bb_SH_fillGriefs 63 = .ok (.iload 7, 2) := by decide +kernel
theorem dd_SH_fillGriefs_65 : decode bb_SH_fillGriefs 65 = .ok (.iload_n 3, 1) := by decide +kernel
theorem dd_SH_fillGriefs_66 : decode bb_SH_fillGriefs 66 = .ok (.if_icmp .eq 32, 3) := by decide +kernel
theorem dd_SH_fillGriefs_69 : decode bb_SH_fillGriefs 69 = .ok (.aload_n 0, 1) := by decide +kernel
theorem dd_SH_fillGriefs_70 : decode bb_SH_fillGriefs 70 = .ok (.iload 7, 2) := by decide +kernel
theorem dd_SH_fillGriefs_72 : decode bb_SH_fillGriefs 72 = .ok (.iload_n 2, 1) := by decide +kernel
theorem dd_SH_fillGriefs_73 : decode bb_SH_fillGriefs 73 = .ok (.iload 6, 2) := by decide +kernel
theorem dd_SH_fillGriefs_75 : decode bb_SH_fillGriefs 75 = .ok (.invokevirtual 98, 3) := by decide +kernel
theorem dd_SH_fillGriefs_78 : decode bb_SH_fillGriefs 78 = .ok (.ifCond .eq 20, 3) := by decide +kernel
theorem dd_SH_fillGriefs_81 : decode bb_SH_fillGriefs 81 = .ok (.aload_n 0, 1) := by decide +kernel
theorem dd_SH_fillGriefs_82 : decode bb_SH_fillGriefs 82 = .ok (.getfield 26, 3) := by decide +kernel
theorem dd_SH_fillGriefs_85 : decode bb_SH_fillGriefs 85 = .ok (.iload 7, 2) := by decide +kernel
theorem dd_SH_fillGriefs_87 : decode bb_SH_fillGriefs 87 = .ok (.iconst 0, 1) := by decide +kernel
theorem dd_SH_fillGriefs_88 : decode bb_SH_fillGriefs 88 = .ok (.invokevirtual 78, 3) := by decide +kernel
theorem dd_SH_fillGriefs_91 : decode bb_SH_fillGriefs 91 = .ok (.iload 5, 2) := by decide +kernel
theorem dd_SH_fillGriefs_93 : decode bb_SH_fillGriefs 93 = .ok (.invokestatic 102, 3) := by decide +kernel
theorem dd_SH_fillGriefs_96 : decode bb_SH_fillGriefs 96 = .ok (.istore 5, 2) := by decide +kernel
theorem dd_SH_fillGriefs_98 : decode bb_SH_fillGriefs 98 = .ok (.iinc 7 1, 3) := by decide +kernel
theorem dd_SH_fillGriefs_101 : decode bb_SH_fillGriefs 101 = .ok (.goto (-50), 3) := by decide +kernel
theorem dd_SH_fillGriefs_104 : decode bb_SH_fillGriefs 104 = .ok (.aload_n 1, 1) := by decide +kernel
theorem dd_SH_fillGriefs_105 : decode bb_SH_fillGriefs 105 = .ok (.iload 6, 2) := by decide +kernel
theorem dd_SH_fillGriefs_107 : decode bb_SH_fillGriefs 107 = .ok (.iload 5, 2) := by decide +kernel
theorem dd_SH_fillGriefs_109 : decode bb_SH_fillGriefs 109 = .ok (.iastore, 1) := by decide +kernel
theorem dd_SH_fillGriefs_110 : decode bb_SH_fillGriefs 110 = .ok (.iinc 6 1, 3) := by decide +kernel
theorem dd_SH_fillGriefs_113 : decode bb_SH_fillGriefs 113 = .ok (.goto (-83), 3) := by decide +kernel
theorem dd_SH_fillGriefs_116 : decode bb_SH_fillGriefs 116 = .ok (.return_, 1) := by decide +kernel
def ff_SH_fillGriefs_104 (k_30 : St → Nat → Nat → Int32 → Int32 → Int32 → Int32 → Int32 → Option (Unit × St)) (x : St) (v0 : Nat) (v1 : Nat) (v2 : Int32) (v3 : Int32) (v4 : Int32) (v5 : Int32) (v6 : Int32) : Option (Unit × St) := (if ixb v6 (ln v1) = true then st (si x v1 (ix v6) v5) (fun x_15 => k_30 x_15 v0 v1 v2 v3 v4 v5 (v6 + 1)) else none)
def ff_SH_fillGriefs_51 (k_30 : St → Nat → Nat → Int32 → Int32 → Int32 → Int32 → Int32 → Option (Unit × St)) : Nat → St → Nat → Nat → Int32 → Int32 → Int32 → Int32 → Int32 → Int32 → Option (Unit × St)
  | 0, _, _, _, _, _, _, _, _, _ => none
  | n + 1, x, v0, v1, v2, v3, v4, v5, v6, v7 => (if (gi x (rf v0 3) 3) ≤ v7 then ff_SH_fillGriefs_104 k_30 x v0 v1 v2 v3 v4 v5 v6 else (if v7 = v3 then ff_SH_fillGriefs_51 k_30 n x v0 v1 v2 v3 v4 v5 v6 (v7 + 1) else bnd (ff_SH_isFeastOf x v0 v7 v2 v6) (fun r_17 x_18 => (if r_17 = 0 then ff_SH_fillGriefs_51 k_30 n x_18 v0 v1 v2 v3 v4 v5 v6 (v7 + 1) else bnd (ff_LE_at x_18 (rf v0 3) v7 0) (fun r_21 x_22 => bnd (ff_KI_feastOf x_22 r_21 v5) (fun r_24 x_25 => ff_SH_fillGriefs_51 k_30 n x_25 v0 v1 v2 v3 v4 r_24 v6 (v7 + 1)))))))
def ff_SH_fillGriefs_30  : Nat → St → Nat → Nat → Int32 → Int32 → Int32 → Int32 → Int32 → Option (Unit × St)
  | 0, _, _, _, _, _, _, _, _ => none
  | n + 1, x, v0, v1, v2, v3, v4, v5, v6 => (if 100 ≤ v6 then some ((), x) else bnd (ff_KI_stepOf x v4 v5 v6) (fun r_10 x_11 => ff_SH_fillGriefs_51 (ff_SH_fillGriefs_30 n) FU x_11 v0 v1 v2 v3 v4 r_10 v6 0))
def ff_SH_fillGriefs  (x : St) (v0 : Nat) (v1 : Nat) (v2 : Int32) (v3 : Int32) : Option (Unit × St) := bnd (ff_LE_at x (rf v0 0) v2 0) (fun r_1 x_2 => bnd (ff_LE_at x_2 (rf v0 0) v2 1) (fun r_4 x_5 => (if ixb 0 (ln v1) = true then st (si x_5 v1 (ix 0) r_4) (fun x_8 => ff_SH_fillGriefs_30 FU x_8 v0 v1 v2 v3 r_1 r_4 1) else none)))
set_option maxHeartbeats 4000000 in
set_option maxRecDepth 100000 in
theorem ww_SH_fillGriefs_104 {p : Program} {l : Launch} {e : Env} {s : State} {m : MethodId} {args : Array Value} {below : List Frame} {meth : Method} {c : Code} {E : Ev} {A : Nat → Prop} {ad : Nat → Nat} {r : Unit} {x' : St} (C0 : Cx E A RSH bb_SH_fillGriefs 8 (none) p s m args meth c) (hap : Ap ad ixC A) {k_30 : St → Nat → Nat → Int32 → Int32 → Int32 → Int32 → Int32 → Option (Unit × St)} (hk_30 : ∀ (x : St) (v0 : Nat) (v1 : Nat) (v2 : Int32) (v3 : Int32) (v4 : Int32) (v5 : Int32) (v6 : Int32), (isO ixC v0 4) → (isO ixC v1 20) → k_30 x v0 v1 v2 v3 v4 v5 v6 = some (r, x') → ∀ (H : Heap) (locs : List Loc) (ls : Array Slot), Wd E ad ixC x H → va_S A s.heap H locs → lv_has ls 8 [(0, .ref (ad v0)), (1, .ref (ad v1)), (2, .int v2), (3, .int v3), (4, .int v4), (5, .int v5), (6, .int v6)] → W p l e rm_SH_fillGriefs s m args below meth c H locs 0 0 (MQ below (QX E ad ixC A (none) x') args s 0 0 A) (F0 m 30 ls [])) {x : St} {v0 : Nat} {v1 : Nat} {v2 : Int32} {v3 : Int32} {v4 : Int32} {v5 : Int32} {v6 : Int32} (ho_v0 : isO ixC v0 4) (ho_v1 : isO ixC v1 20) (hf : ff_SH_fillGriefs_104 k_30 x v0 v1 v2 v3 v4 v5 v6 = some (r, x')) {H : Heap} {locs : List Loc} {ls : Array Slot} (hP : Wd E ad ixC x H) (hS : va_S A s.heap H locs) (hl : lv_has ls 8 [(0, .ref (ad v0)), (1, .ref (ad v1)), (2, .int v2), (3, .int v3), (4, .int v4), (5, .int v5), (6, .int v6)]) : W p l e rm_SH_fillGriefs s m args below meth c H locs 0 0 (MQ below (QX E ad ixC A (none) x') args s 0 0 A) (F0 m 104 ls []) := by
  obtain ⟨hx, hb, hml, hr, hown, hts, hlk, hK⟩ := id C0
  have hf : (if ixb v6 (ln v1) = true then st (si x v1 (ix v6) v5) (fun x_15 => k_30 x_15 v0 v1 v2 v3 v4 v5 (v6 + 1)) else none) = some (r, x') := hf
  refine lv_aload_n hx hb dd_SH_fillGriefs_104 rfl (lv_at hl 1 rfl) ?_
  refine lv_iload hx hb dd_SH_fillGriefs_105 (lv_at hl 6 rfl) ?_
  refine lv_iload hx hb dd_SH_fillGriefs_107 (lv_at hl 5 rfl) ?_
  obtain ⟨h_14, hf⟩ := of_ifb hf
  obtain ⟨x_15, hx_15, hf⟩ := of_st hf
  refine sI C0 hap hP hS ho_v1 h_14 hx_15 dd_SH_fillGriefs_109 (fun H locs hP hS => ?_)
  refine lv_iinc (v := v6 + 1) (lv' := [(6, .int (v6 + 1)), (0, .ref (ad v0)), (1, .ref (ad v1)), (2, .int v2), (3, .int v3), (4, .int v4), (5, .int v5)]) hx hb dd_SH_fillGriefs_110 hl (k := 6) rfl rfl (by decide) rfl (fun ls hl => ?_)
  refine lv_goto (tgt := 30) hx hb dd_SH_fillGriefs_113 (by decide) ?_
  exact hk_30 x_15 v0 v1 v2 v3 v4 v5 (v6 + 1) ho_v0 ho_v1 hf _ _ _ hP hS (lv_sub hl [1, 2, 3, 4, 5, 6, 0] rfl)
set_option maxHeartbeats 4000000 in
set_option maxRecDepth 100000 in
theorem ww_SH_fillGriefs_51 {p : Program} {l : Launch} {e : Env} {s : State} {m : MethodId} {args : Array Value} {below : List Frame} {meth : Method} {c : Code} {E : Ev} {A : Nat → Prop} {ad : Nat → Nat} {r : Unit} {x' : St} (C0 : Cx E A RSH bb_SH_fillGriefs 8 (none) p s m args meth c) (hap : Ap ad ixC A) {k_30 : St → Nat → Nat → Int32 → Int32 → Int32 → Int32 → Int32 → Option (Unit × St)} (hk_30 : ∀ (x : St) (v0 : Nat) (v1 : Nat) (v2 : Int32) (v3 : Int32) (v4 : Int32) (v5 : Int32) (v6 : Int32), (isO ixC v0 4) → (isO ixC v1 20) → k_30 x v0 v1 v2 v3 v4 v5 v6 = some (r, x') → ∀ (H : Heap) (locs : List Loc) (ls : Array Slot), Wd E ad ixC x H → va_S A s.heap H locs → lv_has ls 8 [(0, .ref (ad v0)), (1, .ref (ad v1)), (2, .int v2), (3, .int v3), (4, .int v4), (5, .int v5), (6, .int v6)] → W p l e rm_SH_fillGriefs s m args below meth c H locs 0 0 (MQ below (QX E ad ixC A (none) x') args s 0 0 A) (F0 m 30 ls [])) : ∀ (n : Nat), ∀ (x : St) (v0 : Nat) (v1 : Nat) (v2 : Int32) (v3 : Int32) (v4 : Int32) (v5 : Int32) (v6 : Int32) (v7 : Int32), (isO ixC v0 4) → (isO ixC v1 20) → ff_SH_fillGriefs_51 k_30 n x v0 v1 v2 v3 v4 v5 v6 v7 = some (r, x') → ∀ (H : Heap) (locs : List Loc) (ls : Array Slot), Wd E ad ixC x H → va_S A s.heap H locs → lv_has ls 8 [(0, .ref (ad v0)), (1, .ref (ad v1)), (2, .int v2), (3, .int v3), (4, .int v4), (5, .int v5), (6, .int v6), (7, .int v7)] → W p l e rm_SH_fillGriefs s m args below meth c H locs 0 0 (MQ below (QX E ad ixC A (none) x') args s 0 0 A) (F0 m 51 ls []) := by
  obtain ⟨hx, hb, hml, hr, hown, hts, hlk, hK⟩ := id C0
  intro n
  induction n with
  | zero => intro x v0 v1 v2 v3 v4 v5 v6 v7 ho_v0 ho_v1 hf; exact of_no hf
  | succ n ih =>
    intro x v0 v1 v2 v3 v4 v5 v6 v7 ho_v0 ho_v1 hf H locs ls hP hS hl
    have hf : (if (gi x (rf v0 3) 3) ≤ v7 then ff_SH_fillGriefs_104 k_30 x v0 v1 v2 v3 v4 v5 v6 else (if v7 = v3 then ff_SH_fillGriefs_51 k_30 n x v0 v1 v2 v3 v4 v5 v6 (v7 + 1) else bnd (ff_SH_isFeastOf x v0 v7 v2 v6) (fun r_17 x_18 => (if r_17 = 0 then ff_SH_fillGriefs_51 k_30 n x_18 v0 v1 v2 v3 v4 v5 v6 (v7 + 1) else bnd (ff_LE_at x_18 (rf v0 3) v7 0) (fun r_21 x_22 => bnd (ff_KI_feastOf x_22 r_21 v5) (fun r_24 x_25 => ff_SH_fillGriefs_51 k_30 n x_25 v0 v1 v2 v3 v4 r_24 v6 (v7 + 1))))))) = some (r, x') := hf
    refine lv_iload hx hb dd_SH_fillGriefs_51 (lv_at hl 7 rfl) ?_
    refine lv_aload_n hx hb dd_SH_fillGriefs_53 rfl (lv_at hl 0 rfl) ?_
    refine gf_SH_26 C0 hP ho_v0 dd_SH_fillGriefs_54 ?_
    refine gf_SH_50 C0 hP (tp_4_3 ho_v0) dd_SH_fillGriefs_57 ?_
    refine lv_icmp_ge (tgt := 104) hx hb dd_SH_fillGriefs_60 (by decide) (fun h_13 => ?_) (fun h_13 => ?_)
    · have hf := (if_pos h_13).symm.trans hf
      exact ww_SH_fillGriefs_104 C0 hap hk_30 ho_v0 ho_v1 hf hP hS (lv_sub hl [0, 1, 2, 3, 4, 5, 6] rfl)
    · have hf := (if_neg h_13).symm.trans hf
      refine lv_iload hx hb dd_SH_fillGriefs_63 (lv_at hl 7 rfl) ?_
      refine lv_iload_n hx hb dd_SH_fillGriefs_65 rfl (lv_at hl 3 rfl) ?_
      refine lv_icmp_eq (tgt := 98) hx hb dd_SH_fillGriefs_66 (by decide) (fun h_16 => ?_) (fun h_16 => ?_)
      · have hf := (if_pos h_16).symm.trans hf
        refine lv_iinc (v := v7 + 1) (lv' := [(7, .int (v7 + 1)), (0, .ref (ad v0)), (1, .ref (ad v1)), (2, .int v2), (3, .int v3), (4, .int v4), (5, .int v5), (6, .int v6)]) hx hb dd_SH_fillGriefs_98 hl (k := 7) rfl rfl (by decide) rfl (fun ls hl => ?_)
        refine lv_goto (tgt := 51) hx hb dd_SH_fillGriefs_101 (by decide) ?_
        exact ih x v0 v1 v2 v3 v4 v5 v6 (v7 + 1) ho_v0 ho_v1 hf _ _ _ hP hS (lv_sub hl [1, 2, 3, 4, 5, 6, 7, 0] rfl)
      · have hf := (if_neg h_16).symm.trans hf
        refine lv_aload_n hx hb dd_SH_fillGriefs_69 rfl (lv_at hl 0 rfl) ?_
        refine lv_iload hx hb dd_SH_fillGriefs_70 (lv_at hl 7 rfl) ?_
        refine lv_iload_n hx hb dd_SH_fillGriefs_72 rfl (lv_at hl 2 rfl) ?_
        refine lv_iload hx hb dd_SH_fillGriefs_73 (lv_at hl 6 rfl) ?_
        obtain ⟨r_17, x_18, c_19, hf⟩ := of_bnd hf
        refine cl_SH_98 C0 hap ho_v0 c_19 hP hS ⟨Nat.le_of_ble_eq_true rfl, Nat.le_of_ble_eq_true rfl⟩ hl.1 (Nat.le_of_ble_eq_true rfl) dd_SH_fillGriefs_75 ⟨Nat.le_refl _, Nat.le_refl _⟩ (fun H locs hP hS => ?_)
        refine lv_if_eq (tgt := 98) hx hb dd_SH_fillGriefs_78 (by decide) (fun h_20 => ?_) (fun h_20 => ?_)
        · have hf := (if_pos h_20).symm.trans hf
          refine lv_iinc (v := v7 + 1) (lv' := [(7, .int (v7 + 1)), (0, .ref (ad v0)), (1, .ref (ad v1)), (2, .int v2), (3, .int v3), (4, .int v4), (5, .int v5), (6, .int v6)]) hx hb dd_SH_fillGriefs_98 hl (k := 7) rfl rfl (by decide) rfl (fun ls hl => ?_)
          refine lv_goto (tgt := 51) hx hb dd_SH_fillGriefs_101 (by decide) ?_
          exact ih x_18 v0 v1 v2 v3 v4 v5 v6 (v7 + 1) ho_v0 ho_v1 hf _ _ _ hP hS (lv_sub hl [1, 2, 3, 4, 5, 6, 7, 0] rfl)
        · have hf := (if_neg h_20).symm.trans hf
          refine lv_aload_n hx hb dd_SH_fillGriefs_81 rfl (lv_at hl 0 rfl) ?_
          refine gf_SH_26 C0 hP ho_v0 dd_SH_fillGriefs_82 ?_
          refine lv_iload hx hb dd_SH_fillGriefs_85 (lv_at hl 7 rfl) ?_
          refine lv_iconst (v := 0) hx hb dd_SH_fillGriefs_87 (by decide) ?_
          obtain ⟨r_21, x_22, c_23, hf⟩ := of_bnd hf
          refine cl_SH_78 C0 hap (tp_4_3 ho_v0) c_23 hP hS ⟨Nat.le_of_ble_eq_true rfl, Nat.le_of_ble_eq_true rfl⟩ hl.1 (Nat.le_of_ble_eq_true rfl) dd_SH_fillGriefs_88 ⟨Nat.le_refl _, Nat.le_refl _⟩ (fun H locs hP hS => ?_)
          refine lv_iload hx hb dd_SH_fillGriefs_91 (lv_at hl 5 rfl) ?_
          obtain ⟨r_24, x_25, c_26, hf⟩ := of_bnd hf
          refine cl_SH_102 C0 hap  c_26 hP hS ⟨Nat.le_of_ble_eq_true rfl, Nat.le_of_ble_eq_true rfl⟩ hl.1 (Nat.le_of_ble_eq_true rfl) dd_SH_fillGriefs_93 ⟨Nat.le_refl _, Nat.le_refl _⟩ (fun H locs hP hS => ?_)
          refine lv_istore (lv' := [(5, .int r_24), (0, .ref (ad v0)), (1, .ref (ad v1)), (2, .int v2), (3, .int v3), (4, .int v4), (6, .int v6), (7, .int v7)]) hx hb dd_SH_fillGriefs_96 hl (by decide) rfl (fun ls hl => ?_)
          refine lv_iinc (v := v7 + 1) (lv' := [(7, .int (v7 + 1)), (5, .int r_24), (0, .ref (ad v0)), (1, .ref (ad v1)), (2, .int v2), (3, .int v3), (4, .int v4), (6, .int v6)]) hx hb dd_SH_fillGriefs_98 hl (k := 7) rfl rfl (by decide) rfl (fun ls hl => ?_)
          refine lv_goto (tgt := 51) hx hb dd_SH_fillGriefs_101 (by decide) ?_
          exact ih x_25 v0 v1 v2 v3 v4 r_24 v6 (v7 + 1) ho_v0 ho_v1 hf _ _ _ hP hS (lv_sub hl [2, 3, 4, 5, 6, 1, 7, 0] rfl)
set_option maxHeartbeats 4000000 in
set_option maxRecDepth 100000 in
theorem ww_SH_fillGriefs_30 {p : Program} {l : Launch} {e : Env} {s : State} {m : MethodId} {args : Array Value} {below : List Frame} {meth : Method} {c : Code} {E : Ev} {A : Nat → Prop} {ad : Nat → Nat} {r : Unit} {x' : St} (C0 : Cx E A RSH bb_SH_fillGriefs 8 (none) p s m args meth c) (hap : Ap ad ixC A)  : ∀ (n : Nat), ∀ (x : St) (v0 : Nat) (v1 : Nat) (v2 : Int32) (v3 : Int32) (v4 : Int32) (v5 : Int32) (v6 : Int32), (isO ixC v0 4) → (isO ixC v1 20) → ff_SH_fillGriefs_30 n x v0 v1 v2 v3 v4 v5 v6 = some (r, x') → ∀ (H : Heap) (locs : List Loc) (ls : Array Slot), Wd E ad ixC x H → va_S A s.heap H locs → lv_has ls 8 [(0, .ref (ad v0)), (1, .ref (ad v1)), (2, .int v2), (3, .int v3), (4, .int v4), (5, .int v5), (6, .int v6)] → W p l e rm_SH_fillGriefs s m args below meth c H locs 0 0 (MQ below (QX E ad ixC A (none) x') args s 0 0 A) (F0 m 30 ls []) := by
  obtain ⟨hx, hb, hml, hr, hown, hts, hlk, hK⟩ := id C0
  intro n
  induction n with
  | zero => intro x v0 v1 v2 v3 v4 v5 v6 ho_v0 ho_v1 hf; exact of_no hf
  | succ n ih =>
    intro x v0 v1 v2 v3 v4 v5 v6 ho_v0 ho_v1 hf H locs ls hP hS hl
    have hf : (if 100 ≤ v6 then some ((), x) else bnd (ff_KI_stepOf x v4 v5 v6) (fun r_10 x_11 => ff_SH_fillGriefs_51 (ff_SH_fillGriefs_30 n) FU x_11 v0 v1 v2 v3 v4 r_10 v6 0)) = some (r, x') := hf
    refine lv_iload hx hb dd_SH_fillGriefs_30 (lv_at hl 6 rfl) ?_
    refine lv_bipush (v := 100) hx hb dd_SH_fillGriefs_32 (by decide) ?_
    refine lv_icmp_ge (tgt := 116) hx hb dd_SH_fillGriefs_34 (by decide) (fun h_9 => ?_) (fun h_9 => ?_)
    · have hf := (if_pos h_9).symm.trans hf
      exact rrV C0 hP hS dd_SH_fillGriefs_116 hf
    · have hf := (if_neg h_9).symm.trans hf
      refine lv_iload hx hb dd_SH_fillGriefs_37 (lv_at hl 4 rfl) ?_
      refine lv_iload hx hb dd_SH_fillGriefs_39 (lv_at hl 5 rfl) ?_
      refine lv_iload hx hb dd_SH_fillGriefs_41 (lv_at hl 6 rfl) ?_
      obtain ⟨r_10, x_11, c_12, hf⟩ := of_bnd hf
      refine cl_SH_93 C0 hap  c_12 hP hS ⟨Nat.le_of_ble_eq_true rfl, Nat.le_of_ble_eq_true rfl⟩ hl.1 (Nat.le_of_ble_eq_true rfl) dd_SH_fillGriefs_43 ⟨Nat.le_refl _, Nat.le_refl _⟩ (fun H locs hP hS => ?_)
      refine lv_istore (lv' := [(5, .int r_10), (0, .ref (ad v0)), (1, .ref (ad v1)), (2, .int v2), (3, .int v3), (4, .int v4), (6, .int v6)]) hx hb dd_SH_fillGriefs_46 hl (by decide) rfl (fun ls hl => ?_)
      refine lv_iconst (v := 0) hx hb dd_SH_fillGriefs_48 (by decide) ?_
      refine lv_istore (lv' := [(7, .int 0), (5, .int r_10), (0, .ref (ad v0)), (1, .ref (ad v1)), (2, .int v2), (3, .int v3), (4, .int v4), (6, .int v6)]) hx hb dd_SH_fillGriefs_49 hl (by decide) rfl (fun ls hl => ?_)
      exact ww_SH_fillGriefs_51 C0 hap ih FU x_11 v0 v1 v2 v3 v4 r_10 v6 0 ho_v0 ho_v1 hf _ _ _ hP hS (lv_sub hl [2, 3, 4, 5, 6, 1, 7, 0] rfl)
set_option maxHeartbeats 4000000 in
set_option maxRecDepth 100000 in
theorem ww_SH_fillGriefs {p : Program} {l : Launch} {e : Env} {s : State} {m : MethodId} {args : Array Value} {below : List Frame} {meth : Method} {c : Code} {E : Ev} {A : Nat → Prop} {ad : Nat → Nat} {r : Unit} {x' : St} (C0 : Cx E A RSH bb_SH_fillGriefs 8 (none) p s m args meth c) (hap : Ap ad ixC A)  {x : St} {v0 : Nat} {v1 : Nat} {v2 : Int32} {v3 : Int32} (ho_v0 : isO ixC v0 4) (ho_v1 : isO ixC v1 20) (hf : ff_SH_fillGriefs x v0 v1 v2 v3 = some (r, x')) {H : Heap} {locs : List Loc} {ls : Array Slot} (hP : Wd E ad ixC x H) (hS : va_S A s.heap H locs) (hl : lv_has ls 8 [(0, .ref (ad v0)), (1, .ref (ad v1)), (2, .int v2), (3, .int v3)]) : W p l e rm_SH_fillGriefs s m args below meth c H locs 0 0 (MQ below (QX E ad ixC A (none) x') args s 0 0 A) (F0 m 0 ls []) := by
  obtain ⟨hx, hb, hml, hr, hown, hts, hlk, hK⟩ := id C0
  have hf : bnd (ff_LE_at x (rf v0 0) v2 0) (fun r_1 x_2 => bnd (ff_LE_at x_2 (rf v0 0) v2 1) (fun r_4 x_5 => (if ixb 0 (ln v1) = true then st (si x_5 v1 (ix 0) r_4) (fun x_8 => ff_SH_fillGriefs_30 FU x_8 v0 v1 v2 v3 r_1 r_4 1) else none))) = some (r, x') := hf
  refine lv_aload_n hx hb dd_SH_fillGriefs_0 rfl (lv_at hl 0 rfl) ?_
  refine gf_SH_14 C0 hP ho_v0 dd_SH_fillGriefs_1 ?_
  refine lv_iload_n hx hb dd_SH_fillGriefs_4 rfl (lv_at hl 2 rfl) ?_
  refine lv_iconst (v := 0) hx hb dd_SH_fillGriefs_5 (by decide) ?_
  obtain ⟨r_1, x_2, c_3, hf⟩ := of_bnd hf
  refine cl_SH_78 C0 hap (tp_4_0 ho_v0) c_3 hP hS ⟨Nat.le_of_ble_eq_true rfl, Nat.le_of_ble_eq_true rfl⟩ hl.1 (Nat.le_of_ble_eq_true rfl) dd_SH_fillGriefs_6 ⟨Nat.le_refl _, Nat.le_refl _⟩ (fun H locs hP hS => ?_)
  refine lv_istore (lv' := [(4, .int r_1), (0, .ref (ad v0)), (1, .ref (ad v1)), (2, .int v2), (3, .int v3)]) hx hb dd_SH_fillGriefs_9 hl (by decide) rfl (fun ls hl => ?_)
  refine lv_aload_n hx hb dd_SH_fillGriefs_11 rfl (lv_at hl 1 rfl) ?_
  refine gf_SH_14 C0 hP ho_v0 dd_SH_fillGriefs_12 ?_
  refine lv_iload_n hx hb dd_SH_fillGriefs_15 rfl (lv_at hl 3 rfl) ?_
  refine lv_iconst (v := 1) hx hb dd_SH_fillGriefs_16 (by decide) ?_
  obtain ⟨r_4, x_5, c_6, hf⟩ := of_bnd hf
  refine cl_SH_78 C0 hap (tp_4_0 ho_v0) c_6 hP hS ⟨Nat.le_of_ble_eq_true rfl, Nat.le_of_ble_eq_true rfl⟩ hl.1 (Nat.le_of_ble_eq_true rfl) dd_SH_fillGriefs_17 ⟨Nat.le_refl _, Nat.le_refl _⟩ (fun H locs hP hS => ?_)
  refine lv_istore (lv' := [(5, .int r_4), (4, .int r_1), (0, .ref (ad v0)), (1, .ref (ad v1)), (2, .int v2), (3, .int v3)]) hx hb dd_SH_fillGriefs_20 hl (by decide) rfl (fun ls hl => ?_)
  refine lv_aload_n hx hb dd_SH_fillGriefs_22 rfl (lv_at hl 3 rfl) ?_
  refine lv_iconst (v := 0) hx hb dd_SH_fillGriefs_23 (by decide) ?_
  refine lv_iload hx hb dd_SH_fillGriefs_24 (lv_at hl 0 rfl) ?_
  obtain ⟨h_7, hf⟩ := of_ifb hf
  obtain ⟨x_8, hx_8, hf⟩ := of_st hf
  refine sI C0 hap hP hS ho_v1 h_7 hx_8 dd_SH_fillGriefs_26 (fun H locs hP hS => ?_)
  refine lv_iconst (v := 1) hx hb dd_SH_fillGriefs_27 (by decide) ?_
  refine lv_istore (lv' := [(6, .int 1), (5, .int r_4), (4, .int r_1), (0, .ref (ad v0)), (1, .ref (ad v1)), (2, .int v2), (3, .int v3)]) hx hb dd_SH_fillGriefs_28 hl (by decide) rfl (fun ls hl => ?_)
  exact ww_SH_fillGriefs_30 C0 hap  FU x_8 v0 v1 v2 v3 r_1 r_4 1 ho_v0 ho_v1 hf _ _ _ hP hS (lv_sub hl [3, 4, 5, 6, 2, 1, 0] rfl)
theorem cc_SH_fillGriefs {l : Launch} {E : Ev} {A : Nat → Prop} {ad : Nat → Nat} (hap : Ap ad ixC A) {x x' : St} {v0 : Nat} {v1 : Nat} {v2 : Int32} {v3 : Int32} {r : Unit} (ho_v0 : isO ixC v0 4) (ho_v1 : isO ixC v1 20) (hf : ff_SH_fillGriefs x v0 v1 v2 v3 = some (r, x')) : Met l yy_SH_fillGriefs (Cond.code yy_SH_fillGriefs bb_SH_fillGriefs 8 (none) :: gtb) rm_SH_fillGriefs (va_Pc [.ref (ad v0), .ref (ad v1), .int v2, .int v3] (PB E A ad ixC x)) (QX E ad ixC A (none) x') 0 0 A := by
  exact enter (by decide) (Nat.le_of_ble_eq_true rfl) (fun p e s m below meth c ls C0 hP hS hl => ww_SH_fillGriefs C0 hap ho_v0 ho_v1 hf hP hS hl)
theorem cl_SH_44 {p : Program} {l : Launch} {e : Env} {R : Room} {s : State} {m : MethodId} {args : Array Value} {below : List Frame} {meth : Method} {c : Code} {H : Heap} {locs : List Loc} {cells slots : Nat} {Q : State → Prop} {cc : ByteArray} {pc : Nat} {ls : Array Slot} {rest : List Value} {E : Ev} {A : Nat → Prop} {ad : Nat → Nat} {nL : Nat} {rt : Option FieldType} (C0 : Cx E A RSH cc nL rt p s m args meth c) (hap : Ap ad ixC A) {x x' : St} {v0 : Nat} {v1 : Int32} {r : Unit} (ho_v0 : isO ixC v0 20) (hc : ff_AR_fillI x v0 v1 = some (r, x')) (hP : Wd E ad ixC x H) (hS : va_S A s.heap H locs) (hR : rm_AR_fillI.frames + 1 ≤ R.frames ∧ 8 + (4 + 11) + rm_AR_fillI.locals ≤ R.locals) (hls : ls.size = nL) (hroom : (rest.map fun v => v.category).sum ≤ 8) (hdg : decode cc pc = .ok (.invokestatic 44, 3)) (hf : cells ≤ R.cells ∧ slots ≤ R.slots) (kk : ∀ H1 locs1, Wd E ad ixC x' H1 → va_S A s.heap H1 locs1 → W p l e R s m args below meth c H1 locs1 cells slots Q (F0 m (pc + 3) ls (rest))) : W p l e R s m args below meth c H locs cells slots Q (F0 m pc ls (.int v1 :: .ref (ad v0) :: rest)) :=
  rcS (n := 2) C0 (cc_AR_fillI hap ho_v0 hc) hP hS gw_code_AR_fillI gw_m_SH_44 gw_static_AR_fillI gw_ini_AR rfl rfl (by decide +kernel) rfl hR hls rfl hroom hdg hf (fun H1 locs1 a _ _ b => kk H1 locs1 a b)
abbrev rm_SH_makeEmpty : Room := { frames := 1, cells := 0, slots := 0, locals := 23 }
theorem dd_SH_makeEmpty_0 : decode bb_SH_makeEmpty 0 = .ok (.aload_n 0, 1) := by decide +kernel
theorem dd_SH_makeEmpty_1 : decode bb_SH_makeEmpty 1 = .ok (.getfield 14, 3) := by decide +kernel
theorem dd_SH_makeEmpty_4 : decode bb_SH_makeEmpty 4 = .ok (.iconst 0, 1) := by decide +kernel
theorem dd_SH_makeEmpty_5 : decode bb_SH_makeEmpty 5 = .ok (.putfield 50, 3) := by decide +kernel
theorem dd_SH_makeEmpty_8 : decode bb_SH_makeEmpty 8 = .ok (.aload_n 0, 1) := by decide +kernel
theorem dd_SH_makeEmpty_9 : decode bb_SH_makeEmpty 9 = .ok (.getfield 20, 3) := by decide +kernel
theorem dd_SH_makeEmpty_12 : decode bb_SH_makeEmpty 12 = .ok (.iconst 0, 1) := by decide +kernel
theorem dd_SH_makeEmpty_13 : decode bb_SH_makeEmpty 13 = .ok (.putfield 50, 3) := by decide +kernel
theorem dd_SH_makeEmpty_16 : decode bb_SH_makeEmpty 16 = .ok (.aload_n 0, 1) := by decide +kernel
theorem dd_SH_makeEmpty_17 : decode bb_SH_makeEmpty 17 = .ok (.getfield 23, 3) := by decide +kernel
theorem dd_SH_makeEmpty_20 : decode bb_SH_makeEmpty 20 = .ok (.iconst 0, 1) := by decide +kernel
theorem dd_SH_makeEmpty_21 : decode bb_SH_makeEmpty 21 = .ok (.putfield 50, 3) := by decide +kernel
theorem dd_SH_makeEmpty_24 : decode bb_SH_makeEmpty 24 = .ok (.aload_n 0, 1) := by decide +kernel
theorem dd_SH_makeEmpty_25 : decode bb_SH_makeEmpty 25 = .ok (.getfield 26, 3) := by decide +kernel
theorem dd_SH_makeEmpty_28 : decode bb_SH_makeEmpty 28 = .ok (.iconst 0, 1) := by decide +kernel
theorem dd_SH_makeEmpty_29 : decode bb_SH_makeEmpty 29 = .ok (.putfield 50, 3) := by decide +kernel
theorem dd_SH_makeEmpty_32 : decode bb_SH_makeEmpty 32 = .ok (.aload_n 0, 1) := by decide +kernel
theorem dd_SH_makeEmpty_33 : decode bb_SH_makeEmpty 33 = .ok (.getfield 29, 3) := by decide +kernel
theorem dd_SH_makeEmpty_36 : decode bb_SH_makeEmpty 36 = .ok (.iconst 0, 1) := by decide +kernel
theorem dd_SH_makeEmpty_37 : decode bb_SH_makeEmpty 37 = .ok (.putfield 50, 3) := by decide +kernel
theorem dd_SH_makeEmpty_40 : decode bb_SH_makeEmpty 40 = .ok (.aload_n 0, 1) := by decide +kernel
theorem dd_SH_makeEmpty_41 : decode bb_SH_makeEmpty 41 = .ok (.getfield 37, 3) := by decide +kernel
theorem dd_SH_makeEmpty_44 : decode bb_SH_makeEmpty 44 = .ok (.iconst (-1), 1) := by decide +kernel
theorem dd_SH_makeEmpty_45 : decode bb_SH_makeEmpty 45 = .ok (.invokestatic 44, 3) := by decide +kernel
theorem dd_SH_makeEmpty_48 : decode bb_SH_makeEmpty 48 = .ok (.aload_n 0, 1) := by decide +kernel
theorem dd_SH_makeEmpty_49 : decode bb_SH_makeEmpty 49 = .ok (.iconst 0, 1) := by decide +kernel
theorem dd_SH_makeEmpty_50 : decode bb_SH_makeEmpty 50 = .ok (.putfield 54, 3) := by decide +kernel
theorem dd_SH_makeEmpty_53 : decode bb_SH_makeEmpty 53 = .ok (.aload_n 0, 1) := by decide +kernel
theorem dd_SH_makeEmpty_54 : decode bb_SH_makeEmpty 54 = .ok (.iconst 0, 1) := by decide +kernel
theorem dd_SH_makeEmpty_55 : decode bb_SH_makeEmpty 55 = .ok (.putfield 57, 3) := by decide +kernel
theorem dd_SH_makeEmpty_58 : decode bb_SH_makeEmpty 58 = .ok (.return_, 1) := by decide +kernel
def ff_SH_makeEmpty  (x : St) (v0 : Nat) : Option (Unit × St) := st (si x (rf v0 0) 3 0) (fun x_1 => st (si x_1 (rf v0 1) 3 0) (fun x_2 => st (si x_2 (rf v0 2) 3 0) (fun x_3 => st (si x_3 (rf v0 3) 3 0) (fun x_4 => st (si x_4 (rf v0 4) 3 0) (fun x_5 => bnd (ff_AR_fillI x_5 (rf v0 6) (-1)) (fun _ x_7 => st (si x_7 v0 8 0) (fun x_9 => st (si x_9 v0 9 0) (fun x_10 => some ((), x_10)))))))))
set_option maxHeartbeats 4000000 in
set_option maxRecDepth 100000 in
theorem ww_SH_makeEmpty {p : Program} {l : Launch} {e : Env} {s : State} {m : MethodId} {args : Array Value} {below : List Frame} {meth : Method} {c : Code} {E : Ev} {A : Nat → Prop} {ad : Nat → Nat} {r : Unit} {x' : St} (C0 : Cx E A RSH bb_SH_makeEmpty 1 (none) p s m args meth c) (hap : Ap ad ixC A)  {x : St} {v0 : Nat} (ho_v0 : isO ixC v0 4) (hf : ff_SH_makeEmpty x v0 = some (r, x')) {H : Heap} {locs : List Loc} {ls : Array Slot} (hP : Wd E ad ixC x H) (hS : va_S A s.heap H locs) (hl : lv_has ls 1 [(0, .ref (ad v0))]) : W p l e rm_SH_makeEmpty s m args below meth c H locs 0 0 (MQ below (QX E ad ixC A (none) x') args s 0 0 A) (F0 m 0 ls []) := by
  obtain ⟨hx, hb, hml, hr, hown, hts, hlk, hK⟩ := id C0
  have hf : st (si x (rf v0 0) 3 0) (fun x_1 => st (si x_1 (rf v0 1) 3 0) (fun x_2 => st (si x_2 (rf v0 2) 3 0) (fun x_3 => st (si x_3 (rf v0 3) 3 0) (fun x_4 => st (si x_4 (rf v0 4) 3 0) (fun x_5 => bnd (ff_AR_fillI x_5 (rf v0 6) (-1)) (fun _ x_7 => st (si x_7 v0 8 0) (fun x_9 => st (si x_9 v0 9 0) (fun x_10 => some ((), x_10))))))))) = some (r, x') := hf
  refine lv_aload_n hx hb dd_SH_makeEmpty_0 rfl (lv_at hl 0 rfl) ?_
  refine gf_SH_14 C0 hP ho_v0 dd_SH_makeEmpty_1 ?_
  refine lv_iconst (v := 0) hx hb dd_SH_makeEmpty_4 (by decide) ?_
  obtain ⟨x_1, hx_1, hf⟩ := of_st hf
  refine pf_SH_50 C0 hap hP hS (tp_4_0 ho_v0) hx_1 dd_SH_makeEmpty_5 (fun H locs hP hS => ?_)
  refine lv_aload_n hx hb dd_SH_makeEmpty_8 rfl (lv_at hl 0 rfl) ?_
  refine gf_SH_20 C0 hP ho_v0 dd_SH_makeEmpty_9 ?_
  refine lv_iconst (v := 0) hx hb dd_SH_makeEmpty_12 (by decide) ?_
  obtain ⟨x_2, hx_2, hf⟩ := of_st hf
  refine pf_SH_50 C0 hap hP hS (tp_4_1 ho_v0) hx_2 dd_SH_makeEmpty_13 (fun H locs hP hS => ?_)
  refine lv_aload_n hx hb dd_SH_makeEmpty_16 rfl (lv_at hl 0 rfl) ?_
  refine gf_SH_23 C0 hP ho_v0 dd_SH_makeEmpty_17 ?_
  refine lv_iconst (v := 0) hx hb dd_SH_makeEmpty_20 (by decide) ?_
  obtain ⟨x_3, hx_3, hf⟩ := of_st hf
  refine pf_SH_50 C0 hap hP hS (tp_4_2 ho_v0) hx_3 dd_SH_makeEmpty_21 (fun H locs hP hS => ?_)
  refine lv_aload_n hx hb dd_SH_makeEmpty_24 rfl (lv_at hl 0 rfl) ?_
  refine gf_SH_26 C0 hP ho_v0 dd_SH_makeEmpty_25 ?_
  refine lv_iconst (v := 0) hx hb dd_SH_makeEmpty_28 (by decide) ?_
  obtain ⟨x_4, hx_4, hf⟩ := of_st hf
  refine pf_SH_50 C0 hap hP hS (tp_4_3 ho_v0) hx_4 dd_SH_makeEmpty_29 (fun H locs hP hS => ?_)
  refine lv_aload_n hx hb dd_SH_makeEmpty_32 rfl (lv_at hl 0 rfl) ?_
  refine gf_SH_29 C0 hP ho_v0 dd_SH_makeEmpty_33 ?_
  refine lv_iconst (v := 0) hx hb dd_SH_makeEmpty_36 (by decide) ?_
  obtain ⟨x_5, hx_5, hf⟩ := of_st hf
  refine pf_SH_50 C0 hap hP hS (tp_4_4 ho_v0) hx_5 dd_SH_makeEmpty_37 (fun H locs hP hS => ?_)
  refine lv_aload_n hx hb dd_SH_makeEmpty_40 rfl (lv_at hl 0 rfl) ?_
  refine gf_SH_37 C0 hP ho_v0 dd_SH_makeEmpty_41 ?_
  refine lv_iconst (v := -1) hx hb dd_SH_makeEmpty_44 (by decide) ?_
  obtain ⟨_, x_7, c_8, hf⟩ := of_bnd hf
  refine cl_SH_44 C0 hap (tp_4_6 ho_v0) c_8 hP hS ⟨Nat.le_of_ble_eq_true rfl, Nat.le_of_ble_eq_true rfl⟩ hl.1 (Nat.le_of_ble_eq_true rfl) dd_SH_makeEmpty_45 ⟨Nat.le_refl _, Nat.le_refl _⟩ (fun H locs hP hS => ?_)
  refine lv_aload_n hx hb dd_SH_makeEmpty_48 rfl (lv_at hl 0 rfl) ?_
  refine lv_iconst (v := 0) hx hb dd_SH_makeEmpty_49 (by decide) ?_
  obtain ⟨x_9, hx_9, hf⟩ := of_st hf
  refine pf_SH_54 C0 hap hP hS ho_v0 hx_9 dd_SH_makeEmpty_50 (fun H locs hP hS => ?_)
  refine lv_aload_n hx hb dd_SH_makeEmpty_53 rfl (lv_at hl 0 rfl) ?_
  refine lv_iconst (v := 0) hx hb dd_SH_makeEmpty_54 (by decide) ?_
  obtain ⟨x_10, hx_10, hf⟩ := of_st hf
  refine pf_SH_57 C0 hap hP hS ho_v0 hx_10 dd_SH_makeEmpty_55 (fun H locs hP hS => ?_)
  exact rrV C0 hP hS dd_SH_makeEmpty_58 hf
theorem cc_SH_makeEmpty {l : Launch} {E : Ev} {A : Nat → Prop} {ad : Nat → Nat} (hap : Ap ad ixC A) {x x' : St} {v0 : Nat} {r : Unit} (ho_v0 : isO ixC v0 4) (hf : ff_SH_makeEmpty x v0 = some (r, x')) : Met l yy_SH_makeEmpty (Cond.code yy_SH_makeEmpty bb_SH_makeEmpty 1 (none) :: gtb) rm_SH_makeEmpty (va_Pc [.ref (ad v0)] (PB E A ad ixC x)) (QX E ad ixC A (none) x') 0 0 A := by
  exact enter (by decide) (Nat.le_of_ble_eq_true rfl) (fun p e s m below meth c ls C0 hP hS hl => ww_SH_makeEmpty C0 hap ho_v0 hf hP hS hl)
abbrev rm_SH_allJoints : Room := { frames := 0, cells := 0, slots := 0, locals := 0 }
theorem dd_SH_allJoints_0 : decode bb_SH_allJoints 0 = .ok (.iconst 1, 1) := by decide +kernel
theorem dd_SH_allJoints_1 : decode bb_SH_allJoints 1 = .ok (.aload_n 0, 1) := by decide +kernel
theorem dd_SH_allJoints_2 : decode bb_SH_allJoints 2 = .ok (.getfield 20, 3) := by decide +kernel
theorem dd_SH_allJoints_5 : decode bb_SH_allJoints 5 = .ok (.getfield 50, 3) := by decide +kernel
theorem dd_SH_allJoints_8 : decode bb_SH_allJoints 8 = .ok (.ishl, 1) := by decide +kernel
theorem dd_SH_allJoints_9 : decode bb_SH_allJoints 9 = .ok (.iconst 1, 1) := by decide +kernel
theorem dd_SH_allJoints_10 : decode bb_SH_allJoints 10 = .ok (.isub, 1) := by decide +kernel
theorem dd_SH_allJoints_11 : decode bb_SH_allJoints 11 = .ok (.ireturn, 1) := by decide +kernel
def ff_SH_allJoints  (x : St) (v0 : Nat) : Option (Int32 × St) := some ((1 <<< ((gi x (rf v0 1) 3) &&& 31)) - 1, x)
set_option maxHeartbeats 4000000 in
set_option maxRecDepth 100000 in
theorem ww_SH_allJoints {p : Program} {l : Launch} {e : Env} {s : State} {m : MethodId} {args : Array Value} {below : List Frame} {meth : Method} {c : Code} {E : Ev} {A : Nat → Prop} {ad : Nat → Nat} {r : Int32} {x' : St} (C0 : Cx E A RSH bb_SH_allJoints 1 (some .int) p s m args meth c) (hap : Ap ad ixC A)  {x : St} {v0 : Nat} (ho_v0 : isO ixC v0 4) (hf : ff_SH_allJoints x v0 = some (r, x')) {H : Heap} {locs : List Loc} {ls : Array Slot} (hP : Wd E ad ixC x H) (hS : va_S A s.heap H locs) (hl : lv_has ls 1 [(0, .ref (ad v0))]) : W p l e rm_SH_allJoints s m args below meth c H locs 0 0 (MQ below (QX E ad ixC A (some (.int r)) x') args s 0 0 A) (F0 m 0 ls []) := by
  obtain ⟨hx, hb, hml, hr, hown, hts, hlk, hK⟩ := id C0
  have hf : some ((1 <<< ((gi x (rf v0 1) 3) &&& 31)) - 1, x) = some (r, x') := hf
  refine lv_iconst (v := 1) hx hb dd_SH_allJoints_0 (by decide) ?_
  refine lv_aload_n hx hb dd_SH_allJoints_1 rfl (lv_at hl 0 rfl) ?_
  refine gf_SH_20 C0 hP ho_v0 dd_SH_allJoints_2 ?_
  refine gf_SH_50 C0 hP (tp_4_1 ho_v0) dd_SH_allJoints_5 ?_
  refine lv_ishl hx hb dd_SH_allJoints_8 ?_
  refine lv_iconst (v := 1) hx hb dd_SH_allJoints_9 (by decide) ?_
  refine lv_isub hx hb dd_SH_allJoints_10 ?_
  exact rrI C0 hP hS dd_SH_allJoints_11 hf
theorem cc_SH_allJoints {l : Launch} {E : Ev} {A : Nat → Prop} {ad : Nat → Nat} (hap : Ap ad ixC A) {x x' : St} {v0 : Nat} {r : Int32} (ho_v0 : isO ixC v0 4) (hf : ff_SH_allJoints x v0 = some (r, x')) : Met l yy_SH_allJoints (Cond.code yy_SH_allJoints bb_SH_allJoints 1 (some .int) :: gtb) rm_SH_allJoints (va_Pc [.ref (ad v0)] (PB E A ad ixC x)) (QX E ad ixC A (some (.int r)) x') 0 0 A := by
  exact enter (by decide) (Nat.le_of_ble_eq_true rfl) (fun p e s m below meth c ls C0 hP hS hl => ww_SH_allJoints C0 hap ho_v0 hf hP hS hl)
abbrev rm_SH_boilNow : Room := { frames := 1, cells := 0, slots := 0, locals := 21 }
theorem dd_SH_boilNow_0 : decode bb_SH_boilNow 0 = .ok (.aload_n 0, 1) := by decide +kernel
theorem dd_SH_boilNow_1 : decode bb_SH_boilNow 1 = .ok (.getfield 20, 3) := by decide +kernel
theorem dd_SH_boilNow_4 : decode bb_SH_boilNow 4 = .ok (.iload_n 1, 1) := by decide +kernel
theorem dd_SH_boilNow_5 : decode bb_SH_boilNow 5 = .ok (.invokevirtual 85, 3) := by decide +kernel
theorem dd_SH_boilNow_8 : decode bb_SH_boilNow 8 = .ok (.ifCond .eq 37, 3) := by decide +kernel
theorem dd_SH_boilNow_11 : decode bb_SH_boilNow 11 = .ok (.aload_n 0, 1) := by decide +kernel
theorem dd_SH_boilNow_12 : decode bb_SH_boilNow 12 = .ok (.getfield 37, 3) := by decide +kernel
theorem dd_SH_boilNow_15 : decode bb_SH_boilNow 15 = .ok (.iload_n 1, 1) := by decide +kernel
theorem dd_SH_boilNow_16 : decode bb_SH_boilNow 16 = .ok (.iconst 3, 1) := by decide +kernel
theorem dd_SH_boilNow_17 : decode bb_SH_boilNow 17 = .ok (.imul, 1) := by decide +kernel
theorem dd_SH_boilNow_18 : decode bb_SH_boilNow 18 = .ok (.aload_n 0, 1) := by decide +kernel
theorem dd_SH_boilNow_19 : decode bb_SH_boilNow 19 = .ok (.getfield 57, 3) := by decide +kernel
theorem dd_SH_boilNow_22 : decode bb_SH_boilNow 22 = .ok (.iastore, 1) := by decide +kernel
theorem dd_SH_boilNow_23 : decode bb_SH_boilNow 23 = .ok (.aload_n 0, 1) := by decide +kernel
theorem dd_SH_boilNow_24 : decode bb_SH_boilNow 24 = .ok (.getfield 37, 3) := by decide +kernel
theorem dd_SH_boilNow_27 : decode bb_SH_boilNow 27 = .ok (.iload_n 1, 1) := by decide +kernel
theorem dd_SH_boilNow_28 : decode bb_SH_boilNow 28 = .ok (.iconst 3, 1) := by decide +kernel
theorem dd_SH_boilNow_29 : decode bb_SH_boilNow 29 = .ok (.imul, 1) := by decide +kernel
theorem dd_SH_boilNow_30 : decode bb_SH_boilNow 30 = .ok (.iconst 1, 1) := by decide +kernel
theorem dd_SH_boilNow_31 : decode bb_SH_boilNow 31 = .ok (.iadd, 1) := by decide +kernel
theorem dd_SH_boilNow_32 : decode bb_SH_boilNow 32 = .ok (.iload_n 2, 1) := by decide +kernel
theorem dd_SH_boilNow_33 : decode bb_SH_boilNow 33 = .ok (.iastore, 1) := by decide +kernel
theorem dd_SH_boilNow_34 : decode bb_SH_boilNow 34 = .ok (.aload_n 0, 1) := by decide +kernel
theorem dd_SH_boilNow_35 : decode bb_SH_boilNow 35 = .ok (.getfield 37, 3) := by decide +kernel
theorem dd_SH_boilNow_38 : decode bb_SH_boilNow 38 = .ok (.iload_n 1, 1) := by decide +kernel
theorem dd_SH_boilNow_39 : decode bb_SH_boilNow 39 = .ok (.iconst 3, 1) := by decide +kernel
theorem dd_SH_boilNow_40 : decode bb_SH_boilNow 40 = .ok (.imul, 1) := by decide +kernel
theorem dd_SH_boilNow_41 : decode bb_SH_boilNow 41 = .ok (.iconst 2, 1) := by decide +kernel
theorem dd_SH_boilNow_42 : decode bb_SH_boilNow 42 = .ok (.iadd, 1) := by decide +kernel
theorem dd_SH_boilNow_43 : decode bb_SH_boilNow 43 = .ok (.iload_n 3, 1) := by decide +kernel
theorem dd_SH_boilNow_44 : decode bb_SH_boilNow 44 = .ok (.iastore, 1) := by decide +kernel
theorem dd_SH_boilNow_45 : decode bb_SH_boilNow 45 = .ok (.return_, 1) := by decide +kernel
def ff_SH_boilNow  (x : St) (v0 : Nat) (v1 : Int32) (v2 : Int32) (v3 : Int32) : Option (Unit × St) := bnd (ff_LE_has x (rf v0 1) v1) (fun r_1 x_2 => (if r_1 = 0 then some ((), x_2) else (if ixb (v1 * 3) (ln (rf v0 6)) = true then st (si x_2 (rf v0 6) (ix (v1 * 3)) (gi x_2 v0 9)) (fun x_6 => (if ixb ((v1 * 3) + 1) (ln (rf v0 6)) = true then st (si x_6 (rf v0 6) (ix ((v1 * 3) + 1)) v2) (fun x_8 => (if ixb ((v1 * 3) + 2) (ln (rf v0 6)) = true then st (si x_8 (rf v0 6) (ix ((v1 * 3) + 2)) v3) (fun x_10 => some ((), x_10)) else none)) else none)) else none)))
set_option maxHeartbeats 4000000 in
set_option maxRecDepth 100000 in
theorem ww_SH_boilNow {p : Program} {l : Launch} {e : Env} {s : State} {m : MethodId} {args : Array Value} {below : List Frame} {meth : Method} {c : Code} {E : Ev} {A : Nat → Prop} {ad : Nat → Nat} {r : Unit} {x' : St} (C0 : Cx E A RSH bb_SH_boilNow 4 (none) p s m args meth c) (hap : Ap ad ixC A)  {x : St} {v0 : Nat} {v1 : Int32} {v2 : Int32} {v3 : Int32} (ho_v0 : isO ixC v0 4) (hf : ff_SH_boilNow x v0 v1 v2 v3 = some (r, x')) {H : Heap} {locs : List Loc} {ls : Array Slot} (hP : Wd E ad ixC x H) (hS : va_S A s.heap H locs) (hl : lv_has ls 4 [(0, .ref (ad v0)), (1, .int v1), (2, .int v2), (3, .int v3)]) : W p l e rm_SH_boilNow s m args below meth c H locs 0 0 (MQ below (QX E ad ixC A (none) x') args s 0 0 A) (F0 m 0 ls []) := by
  obtain ⟨hx, hb, hml, hr, hown, hts, hlk, hK⟩ := id C0
  have hf : bnd (ff_LE_has x (rf v0 1) v1) (fun r_1 x_2 => (if r_1 = 0 then some ((), x_2) else (if ixb (v1 * 3) (ln (rf v0 6)) = true then st (si x_2 (rf v0 6) (ix (v1 * 3)) (gi x_2 v0 9)) (fun x_6 => (if ixb ((v1 * 3) + 1) (ln (rf v0 6)) = true then st (si x_6 (rf v0 6) (ix ((v1 * 3) + 1)) v2) (fun x_8 => (if ixb ((v1 * 3) + 2) (ln (rf v0 6)) = true then st (si x_8 (rf v0 6) (ix ((v1 * 3) + 2)) v3) (fun x_10 => some ((), x_10)) else none)) else none)) else none))) = some (r, x') := hf
  refine lv_aload_n hx hb dd_SH_boilNow_0 rfl (lv_at hl 0 rfl) ?_
  refine gf_SH_20 C0 hP ho_v0 dd_SH_boilNow_1 ?_
  refine lv_iload_n hx hb dd_SH_boilNow_4 rfl (lv_at hl 1 rfl) ?_
  obtain ⟨r_1, x_2, c_3, hf⟩ := of_bnd hf
  refine cl_SH_85 C0 hap (tp_4_1 ho_v0) c_3 hP hS ⟨Nat.le_of_ble_eq_true rfl, Nat.le_of_ble_eq_true rfl⟩ hl.1 (Nat.le_of_ble_eq_true rfl) dd_SH_boilNow_5 ⟨Nat.le_refl _, Nat.le_refl _⟩ (fun H locs hP hS => ?_)
  refine lv_if_eq (tgt := 45) hx hb dd_SH_boilNow_8 (by decide) (fun h_4 => ?_) (fun h_4 => ?_)
  · have hf := (if_pos h_4).symm.trans hf
    exact rrV C0 hP hS dd_SH_boilNow_45 hf
  · have hf := (if_neg h_4).symm.trans hf
    refine lv_aload_n hx hb dd_SH_boilNow_11 rfl (lv_at hl 0 rfl) ?_
    refine gf_SH_37 C0 hP ho_v0 dd_SH_boilNow_12 ?_
    refine lv_iload_n hx hb dd_SH_boilNow_15 rfl (lv_at hl 1 rfl) ?_
    refine lv_iconst (v := 3) hx hb dd_SH_boilNow_16 (by decide) ?_
    refine lv_imul hx hb dd_SH_boilNow_17 ?_
    refine lv_aload_n hx hb dd_SH_boilNow_18 rfl (lv_at hl 0 rfl) ?_
    refine gf_SH_57 C0 hP ho_v0 dd_SH_boilNow_19 ?_
    obtain ⟨h_5, hf⟩ := of_ifb hf
    obtain ⟨x_6, hx_6, hf⟩ := of_st hf
    refine sI C0 hap hP hS (tp_4_6 ho_v0) h_5 hx_6 dd_SH_boilNow_22 (fun H locs hP hS => ?_)
    refine lv_aload_n hx hb dd_SH_boilNow_23 rfl (lv_at hl 0 rfl) ?_
    refine gf_SH_37 C0 hP ho_v0 dd_SH_boilNow_24 ?_
    refine lv_iload_n hx hb dd_SH_boilNow_27 rfl (lv_at hl 1 rfl) ?_
    refine lv_iconst (v := 3) hx hb dd_SH_boilNow_28 (by decide) ?_
    refine lv_imul hx hb dd_SH_boilNow_29 ?_
    refine lv_iconst (v := 1) hx hb dd_SH_boilNow_30 (by decide) ?_
    refine lv_iadd hx hb dd_SH_boilNow_31 ?_
    refine lv_iload_n hx hb dd_SH_boilNow_32 rfl (lv_at hl 2 rfl) ?_
    obtain ⟨h_7, hf⟩ := of_ifb hf
    obtain ⟨x_8, hx_8, hf⟩ := of_st hf
    refine sI C0 hap hP hS (tp_4_6 ho_v0) h_7 hx_8 dd_SH_boilNow_33 (fun H locs hP hS => ?_)
    refine lv_aload_n hx hb dd_SH_boilNow_34 rfl (lv_at hl 0 rfl) ?_
    refine gf_SH_37 C0 hP ho_v0 dd_SH_boilNow_35 ?_
    refine lv_iload_n hx hb dd_SH_boilNow_38 rfl (lv_at hl 1 rfl) ?_
    refine lv_iconst (v := 3) hx hb dd_SH_boilNow_39 (by decide) ?_
    refine lv_imul hx hb dd_SH_boilNow_40 ?_
    refine lv_iconst (v := 2) hx hb dd_SH_boilNow_41 (by decide) ?_
    refine lv_iadd hx hb dd_SH_boilNow_42 ?_
    refine lv_iload_n hx hb dd_SH_boilNow_43 rfl (lv_at hl 3 rfl) ?_
    obtain ⟨h_9, hf⟩ := of_ifb hf
    obtain ⟨x_10, hx_10, hf⟩ := of_st hf
    refine sI C0 hap hP hS (tp_4_6 ho_v0) h_9 hx_10 dd_SH_boilNow_44 (fun H locs hP hS => ?_)
    exact rrV C0 hP hS dd_SH_boilNow_45 hf
theorem cc_SH_boilNow {l : Launch} {E : Ev} {A : Nat → Prop} {ad : Nat → Nat} (hap : Ap ad ixC A) {x x' : St} {v0 : Nat} {v1 : Int32} {v2 : Int32} {v3 : Int32} {r : Unit} (ho_v0 : isO ixC v0 4) (hf : ff_SH_boilNow x v0 v1 v2 v3 = some (r, x')) : Met l yy_SH_boilNow (Cond.code yy_SH_boilNow bb_SH_boilNow 4 (none) :: gtb) rm_SH_boilNow (va_Pc [.ref (ad v0), .int v1, .int v2, .int v3] (PB E A ad ixC x)) (QX E ad ixC A (none) x') 0 0 A := by
  exact enter (by decide) (Nat.le_of_ble_eq_true rfl) (fun p e s m below meth c ls C0 hP hS hl => ww_SH_boilNow C0 hap ho_v0 hf hP hS hl)
theorem cl_SH_60 {p : Program} {l : Launch} {e : Env} {R : Room} {s : State} {m : MethodId} {args : Array Value} {below : List Frame} {meth : Method} {c : Code} {H : Heap} {locs : List Loc} {cells slots : Nat} {Q : State → Prop} {cc : ByteArray} {pc : Nat} {ls : Array Slot} {rest : List Value} {E : Ev} {A : Nat → Prop} {ad : Nat → Nat} {nL : Nat} {rt : Option FieldType} (C0 : Cx E A RSH cc nL rt p s m args meth c) (hap : Ap ad ixC A) {x x' : St} {v0 : Nat} {v1 : Nat} {r : Unit} (ho_v0 : isO ixC v0 1) (ho_v1 : isO ixC v1 1) (hc : ff_LE_copyFrom x v0 v1 = some (r, x')) (hP : Wd E ad ixC x H) (hS : va_S A s.heap H locs) (hR : rm_LE_copyFrom.frames + 1 ≤ R.frames ∧ 8 + (2 + 11) + rm_LE_copyFrom.locals ≤ R.locals) (hls : ls.size = nL) (hroom : (rest.map fun v => v.category).sum ≤ 8) (hdg : decode cc pc = .ok (.invokevirtual 60, 3)) (hf : cells ≤ R.cells ∧ slots ≤ R.slots) (kk : ∀ H1 locs1, Wd E ad ixC x' H1 → va_S A s.heap H1 locs1 → W p l e R s m args below meth c H1 locs1 cells slots Q (F0 m (pc + 3) ls (rest))) : W p l e R s m args below meth c H locs cells slots Q (F0 m pc ls (.ref (ad v1) :: .ref (ad v0) :: rest)) :=
  rcV (n := 1) C0 (cc_LE_copyFrom hap ho_v0 ho_v1 hc) hP hS ho_v0 vcl_1 (by decide) gw_code_LE_copyFrom gw_m_SH_60 gw_inst_LE_copyFrom gw_sel_LE_copyFrom gw_ini_LE rfl rfl (by decide +kernel) rfl hR hls rfl hroom hdg hf (fun H1 locs1 a _ _ b => kk H1 locs1 a b)
abbrev rm_SH_copyFrom : Room := { frames := 2, cells := 0, slots := 0, locals := 47 }
theorem dd_SH_copyFrom_0 : decode bb_SH_copyFrom 0 = .ok (.aload_n 0, 1) := by decide +kernel
theorem dd_SH_copyFrom_1 : decode bb_SH_copyFrom 1 = .ok (.getfield 14, 3) := by decide +kernel
theorem dd_SH_copyFrom_4 : decode bb_SH_copyFrom 4 = .ok (.aload_n 1, 1) := by decide +kernel
theorem dd_SH_copyFrom_5 : decode bb_SH_copyFrom 5 = .ok (.getfield 14, 3) := by decide +kernel
theorem dd_SH_copyFrom_8 : decode bb_SH_copyFrom 8 = .ok (.invokevirtual 60, 3) := by decide +kernel
theorem dd_SH_copyFrom_11 : decode bb_SH_copyFrom 11 = .ok (.aload_n 0, 1) := by decide +kernel
theorem dd_SH_copyFrom_12 : decode bb_SH_copyFrom 12 = .ok (.getfield 20, 3) := by decide +kernel
theorem dd_SH_copyFrom_15 : decode bb_SH_copyFrom 15 = .ok (.aload_n 1, 1) := by decide +kernel
theorem dd_SH_copyFrom_16 : decode bb_SH_copyFrom 16 = .ok (.getfield 20, 3) := by decide +kernel
theorem dd_SH_copyFrom_19 : decode bb_SH_copyFrom 19 = .ok (.invokevirtual 60, 3) := by decide +kernel
theorem dd_SH_copyFrom_22 : decode bb_SH_copyFrom 22 = .ok (.aload_n 0, 1) := by decide +kernel
theorem dd_SH_copyFrom_23 : decode bb_SH_copyFrom 23 = .ok (.getfield 23, 3) := by decide +kernel
theorem dd_SH_copyFrom_26 : decode bb_SH_copyFrom 26 = .ok (.aload_n 1, 1) := by decide +kernel
theorem dd_SH_copyFrom_27 : decode bb_SH_copyFrom 27 = .ok (.getfield 23, 3) := by decide +kernel
theorem dd_SH_copyFrom_30 : decode bb_SH_copyFrom 30 = .ok (.invokevirtual 60, 3) := by decide +kernel
theorem dd_SH_copyFrom_33 : decode bb_SH_copyFrom 33 = .ok (.aload_n 0, 1) := by decide +kernel
theorem dd_SH_copyFrom_34 : decode bb_SH_copyFrom 34 = .ok (.getfield 26, 3) := by decide +kernel
theorem dd_SH_copyFrom_37 : decode bb_SH_copyFrom 37 = .ok (.aload_n 1, 1) := by decide +kernel
theorem dd_SH_copyFrom_38 : decode bb_SH_copyFrom 38 = .ok (.getfield 26, 3) := by decide +kernel
theorem dd_SH_copyFrom_41 : decode bb_SH_copyFrom 41 = .ok (.invokevirtual 60, 3) := by decide +kernel
theorem dd_SH_copyFrom_44 : decode bb_SH_copyFrom 44 = .ok (.aload_n 0, 1) := by decide +kernel
theorem dd_SH_copyFrom_45 : decode bb_SH_copyFrom 45 = .ok (.getfield 29, 3) := by decide +kernel
theorem dd_SH_copyFrom_48 : decode bb_SH_copyFrom 48 = .ok (.aload_n 1, 1) := by decide +kernel
theorem dd_SH_copyFrom_49 : decode bb_SH_copyFrom 49 = .ok (.getfield 29, 3) := by decide +kernel
theorem dd_SH_copyFrom_52 : decode bb_SH_copyFrom 52 = .ok (.invokevirtual 60, 3) := by decide +kernel
theorem dd_SH_copyFrom_55 : decode bb_SH_copyFrom 55 = .ok (.iconst 0, 1) := by decide +kernel
theorem dd_SH_copyFrom_56 : decode bb_SH_copyFrom 56 = .ok (.istore_n 2, 1) := by decide +kernel
theorem dd_SH_copyFrom_57 : decode bb_SH_copyFrom 57 = .ok (.iload_n 2, 1) := by decide +kernel
theorem dd_SH_copyFrom_58 : decode bb_SH_copyFrom 58 = .ok (.aload_n 0, 1) := by decide +kernel
theorem dd_SH_copyFrom_59 : decode bb_SH_copyFrom 59 = .ok (.getfield 14, 3) := by decide +kernel
theorem dd_SH_copyFrom_62 : decode bb_SH_copyFrom 62 = .ok (.getfield 50, 3) := by decide +kernel
theorem dd_SH_copyFrom_65 : decode bb_SH_copyFrom 65 = .ok (.if_icmp .ge 28, 3) := by decide +kernel
theorem dd_SH_copyFrom_68 : decode bb_SH_copyFrom 68 = .ok (.aload_n 1, 1) := by decide +kernel
theorem dd_SH_copyFrom_69 : decode bb_SH_copyFrom 69 = .ok (.getfield 34, 3) := by decide +kernel
theorem dd_SH_copyFrom_72 : decode bb_SH_copyFrom 72 = .ok (.iload_n 2, 1) := by decide +kernel
theorem dd_SH_copyFrom_73 : decode bb_SH_copyFrom 73 = .ok (.aaload, 1) := by decide +kernel
theorem dd_SH_copyFrom_74 : decode bb_SH_copyFrom 74 = .ok (.iconst 0, 1) := by decide +kernel
theorem dd_SH_copyFrom_75 : decode bb_SH_copyFrom 75 = .ok (.aload_n 0, 1) := by decide +kernel
theorem dd_SH_copyFrom_76 : decode bb_SH_copyFrom 76 = .ok (.getfield 34, 3) := by decide +kernel
theorem dd_SH_copyFrom_79 : decode bb_SH_copyFrom 79 = .ok (.iload_n 2, 1) := by decide +kernel
theorem dd_SH_copyFrom_80 : decode bb_SH_copyFrom 80 = .ok (.aaload, 1) := by decide +kernel
theorem dd_SH_copyFrom_81 : decode bb_SH_copyFrom 81 = .ok (.iconst 0, 1) := by decide +kernel
theorem dd_SH_copyFrom_82 : decode bb_SH_copyFrom 82 = .ok (.bipush 100, 2) := by decide +kernel
theorem dd_SH_copyFrom_84 : decode bb_SH_copyFrom 84 = .ok (.invokestatic 64, 3) := by decide +kernel
theorem dd_SH_copyFrom_87 : decode bb_SH_copyFrom 87 = .ok (.iinc 2 1, 3) := by decide +kernel
theorem dd_SH_copyFrom_90 : decode bb_SH_copyFrom 90 = .ok (.goto (-33), 3) := by decide +kernel
theorem dd_SH_copyFrom_93 : decode bb_SH_copyFrom 93 = .ok (.aload_n 1, 1) := by decide +kernel
theorem dd_SH_copyFrom_94 : decode bb_SH_copyFrom 94 = .ok (.getfield 37, 3) := by decide +kernel
theorem dd_SH_copyFrom_97 : decode bb_SH_copyFrom 97 = .ok (.iconst 0, 1) := by decide +kernel
theorem dd_SH_copyFrom_98 : decode bb_SH_copyFrom 98 = .ok (.aload_n 0, 1) := by decide +kernel
theorem dd_SH_copyFrom_99 : decode bb_SH_copyFrom 99 = .ok (.getfield 37, 3) := by decide +kernel
theorem dd_SH_copyFrom_102 : decode bb_SH_copyFrom 102 = .ok (.iconst 0, 1) := by decide +kernel
theorem dd_SH_copyFrom_103 : decode bb_SH_copyFrom 103 = .ok (.bipush 18, 2) := by decide +kernel
theorem dd_SH_copyFrom_105 : decode bb_SH_copyFrom 105 = .ok (.invokestatic 64, 3) := by decide +kernel
theorem dd_SH_copyFrom_108 : decode bb_SH_copyFrom 108 = .ok (.aload_n 1, 1) := by decide +kernel
theorem dd_SH_copyFrom_109 : decode bb_SH_copyFrom 109 = .ok (.getfield 41, 3) := by decide +kernel
theorem dd_SH_copyFrom_112 : decode bb_SH_copyFrom 112 = .ok (.iconst 0, 1) := by decide +kernel
theorem dd_SH_copyFrom_113 : decode bb_SH_copyFrom 113 = .ok (.aload_n 0, 1) := by decide +kernel
theorem dd_SH_copyFrom_114 : decode bb_SH_copyFrom 114 = .ok (.getfield 41, 3) := by decide +kernel
theorem dd_SH_copyFrom_117 : decode bb_SH_copyFrom 117 = .ok (.iconst 0, 1) := by decide +kernel
theorem dd_SH_copyFrom_118 : decode bb_SH_copyFrom 118 = .ok (.sipush 190, 3) := by decide +kernel
theorem dd_SH_copyFrom_121 : decode bb_SH_copyFrom 121 = .ok (.invokestatic 64, 3) := by decide +kernel
theorem dd_SH_copyFrom_124 : decode bb_SH_copyFrom 124 = .ok (.aload_n 0, 1) := by decide +kernel
theorem dd_SH_copyFrom_125 : decode bb_SH_copyFrom 125 = .ok (.aload_n 1, 1) := by decide +kernel
theorem dd_SH_copyFrom_126 : decode bb_SH_copyFrom 126 = .ok (.getfield 54, 3) := by decide +kernel
theorem dd_SH_copyFrom_129 : decode bb_SH_copyFrom 129 = .ok (.putfield 54, 3) := by decide +kernel
theorem dd_SH_copyFrom_132 : decode bb_SH_copyFrom 132 = .ok (.aload_n 0, 1) := by decide +kernel
theorem dd_SH_copyFrom_133 : decode bb_SH_copyFrom 133 = .ok (.aload_n 1, 1) := by decide +kernel
theorem dd_SH_copyFrom_134 : decode bb_SH_copyFrom 134 = .ok (.getfield 57, 3) := by decide +kernel
theorem dd_SH_copyFrom_137 : decode bb_SH_copyFrom 137 = .ok (.putfield 57, 3) := by decide +kernel
theorem dd_SH_copyFrom_140 : decode bb_SH_copyFrom 140 = .ok (.return_, 1) := by decide +kernel
def ff_SH_copyFrom_93  (x : St) (v0 : Nat) (v1 : Nat) : Option (Unit × St) := (if spb 0 18 (ln (rf v1 6)) = true then (if spb 0 18 (ln (rf v0 6)) = true then st (cpi x (rf v1 6) (ix 0) (rf v0 6) (ix 0) (ix 18)) (fun x_19 => (if spb 0 190 (ln (rf v1 7)) = true then (if spb 0 190 (ln (rf v0 7)) = true then st (cpi x_19 (rf v1 7) (ix 0) (rf v0 7) (ix 0) (ix 190)) (fun x_22 => st (si x_22 v0 8 (gi x_22 v1 8)) (fun x_23 => st (si x_23 v0 9 (gi x_23 v1 9)) (fun x_24 => some ((), x_24)))) else none) else none)) else none) else none)
def ff_SH_copyFrom_57  : Nat → St → Nat → Nat → Int32 → Option (Unit × St)
  | 0, _, _, _, _ => none
  | n + 1, x, v0, v1, v2 => (if (gi x (rf v0 0) 3) ≤ v2 then ff_SH_copyFrom_93 x v0 v1 else (if ixb v2 (ln (rf v1 5)) = true then (if ixb v2 (ln (rf v0 5)) = true then (if spb 0 100 (ln (rf (rf v1 5) (ix v2))) = true then (if spb 0 100 (ln (rf (rf v0 5) (ix v2))) = true then st (cpi x (rf (rf v1 5) (ix v2)) (ix 0) (rf (rf v0 5) (ix v2)) (ix 0) (ix 100)) (fun x_29 => ff_SH_copyFrom_57 n x_29 v0 v1 (v2 + 1)) else none) else none) else none) else none))
def ff_SH_copyFrom  (x : St) (v0 : Nat) (v1 : Nat) : Option (Unit × St) := bnd (ff_LE_copyFrom x (rf v0 0) (rf v1 0)) (fun _ x_2 => bnd (ff_LE_copyFrom x_2 (rf v0 1) (rf v1 1)) (fun _ x_5 => bnd (ff_LE_copyFrom x_5 (rf v0 2) (rf v1 2)) (fun _ x_8 => bnd (ff_LE_copyFrom x_8 (rf v0 3) (rf v1 3)) (fun _ x_11 => bnd (ff_LE_copyFrom x_11 (rf v0 4) (rf v1 4)) (fun _ x_14 => ff_SH_copyFrom_57 FU x_14 v0 v1 0)))))
set_option maxHeartbeats 4000000 in
set_option maxRecDepth 100000 in
theorem ww_SH_copyFrom_93 {p : Program} {l : Launch} {e : Env} {s : State} {m : MethodId} {args : Array Value} {below : List Frame} {meth : Method} {c : Code} {E : Ev} {A : Nat → Prop} {ad : Nat → Nat} {r : Unit} {x' : St} (C0 : Cx E A RSH bb_SH_copyFrom 3 (none) p s m args meth c) (hap : Ap ad ixC A)  {x : St} {v0 : Nat} {v1 : Nat} (ho_v0 : isO ixC v0 4) (ho_v1 : isO ixC v1 4) (hf : ff_SH_copyFrom_93 x v0 v1 = some (r, x')) {H : Heap} {locs : List Loc} {ls : Array Slot} (hP : Wd E ad ixC x H) (hS : va_S A s.heap H locs) (hl : lv_has ls 3 [(0, .ref (ad v0)), (1, .ref (ad v1))]) : W p l e rm_SH_copyFrom s m args below meth c H locs 0 0 (MQ below (QX E ad ixC A (none) x') args s 0 0 A) (F0 m 93 ls []) := by
  obtain ⟨hx, hb, hml, hr, hown, hts, hlk, hK⟩ := id C0
  have hf : (if spb 0 18 (ln (rf v1 6)) = true then (if spb 0 18 (ln (rf v0 6)) = true then st (cpi x (rf v1 6) (ix 0) (rf v0 6) (ix 0) (ix 18)) (fun x_19 => (if spb 0 190 (ln (rf v1 7)) = true then (if spb 0 190 (ln (rf v0 7)) = true then st (cpi x_19 (rf v1 7) (ix 0) (rf v0 7) (ix 0) (ix 190)) (fun x_22 => st (si x_22 v0 8 (gi x_22 v1 8)) (fun x_23 => st (si x_23 v0 9 (gi x_23 v1 9)) (fun x_24 => some ((), x_24)))) else none) else none)) else none) else none) = some (r, x') := hf
  refine lv_aload_n hx hb dd_SH_copyFrom_93 rfl (lv_at hl 1 rfl) ?_
  refine gf_SH_37 C0 hP ho_v1 dd_SH_copyFrom_94 ?_
  refine lv_iconst (v := 0) hx hb dd_SH_copyFrom_97 (by decide) ?_
  refine lv_aload_n hx hb dd_SH_copyFrom_98 rfl (lv_at hl 0 rfl) ?_
  refine gf_SH_37 C0 hP ho_v0 dd_SH_copyFrom_99 ?_
  refine lv_iconst (v := 0) hx hb dd_SH_copyFrom_102 (by decide) ?_
  refine lv_bipush (v := 18) hx hb dd_SH_copyFrom_103 (by decide) ?_
  obtain ⟨h_17, hf⟩ := of_ifb hf
  obtain ⟨h_18, hf⟩ := of_ifb hf
  obtain ⟨x_19, hx_19, hf⟩ := of_st hf
  refine cpI C0 hap hP hS (tp_4_6 ho_v1) (tp_4_6 ho_v0) h_17 h_18 hx_19 hl.1 gw_m_SH_64 (Nat.le_of_ble_eq_true rfl) ⟨Nat.le_of_ble_eq_true rfl, Nat.le_of_ble_eq_true rfl⟩ dd_SH_copyFrom_105 (fun H locs hP hS => ?_)
  refine lv_aload_n hx hb dd_SH_copyFrom_108 rfl (lv_at hl 1 rfl) ?_
  refine gf_SH_41 C0 hP ho_v1 dd_SH_copyFrom_109 ?_
  refine lv_iconst (v := 0) hx hb dd_SH_copyFrom_112 (by decide) ?_
  refine lv_aload_n hx hb dd_SH_copyFrom_113 rfl (lv_at hl 0 rfl) ?_
  refine gf_SH_41 C0 hP ho_v0 dd_SH_copyFrom_114 ?_
  refine lv_iconst (v := 0) hx hb dd_SH_copyFrom_117 (by decide) ?_
  refine lv_sipush (v := 190) hx hb dd_SH_copyFrom_118 (by decide) ?_
  obtain ⟨h_20, hf⟩ := of_ifb hf
  obtain ⟨h_21, hf⟩ := of_ifb hf
  obtain ⟨x_22, hx_22, hf⟩ := of_st hf
  refine cpI C0 hap hP hS (tp_4_7 ho_v1) (tp_4_7 ho_v0) h_20 h_21 hx_22 hl.1 gw_m_SH_64 (Nat.le_of_ble_eq_true rfl) ⟨Nat.le_of_ble_eq_true rfl, Nat.le_of_ble_eq_true rfl⟩ dd_SH_copyFrom_121 (fun H locs hP hS => ?_)
  refine lv_aload_n hx hb dd_SH_copyFrom_124 rfl (lv_at hl 0 rfl) ?_
  refine lv_aload_n hx hb dd_SH_copyFrom_125 rfl (lv_at hl 1 rfl) ?_
  refine gf_SH_54 C0 hP ho_v1 dd_SH_copyFrom_126 ?_
  obtain ⟨x_23, hx_23, hf⟩ := of_st hf
  refine pf_SH_54 C0 hap hP hS ho_v0 hx_23 dd_SH_copyFrom_129 (fun H locs hP hS => ?_)
  refine lv_aload_n hx hb dd_SH_copyFrom_132 rfl (lv_at hl 0 rfl) ?_
  refine lv_aload_n hx hb dd_SH_copyFrom_133 rfl (lv_at hl 1 rfl) ?_
  refine gf_SH_57 C0 hP ho_v1 dd_SH_copyFrom_134 ?_
  obtain ⟨x_24, hx_24, hf⟩ := of_st hf
  refine pf_SH_57 C0 hap hP hS ho_v0 hx_24 dd_SH_copyFrom_137 (fun H locs hP hS => ?_)
  exact rrV C0 hP hS dd_SH_copyFrom_140 hf
set_option maxHeartbeats 4000000 in
set_option maxRecDepth 100000 in
theorem ww_SH_copyFrom_57 {p : Program} {l : Launch} {e : Env} {s : State} {m : MethodId} {args : Array Value} {below : List Frame} {meth : Method} {c : Code} {E : Ev} {A : Nat → Prop} {ad : Nat → Nat} {r : Unit} {x' : St} (C0 : Cx E A RSH bb_SH_copyFrom 3 (none) p s m args meth c) (hap : Ap ad ixC A)  : ∀ (n : Nat), ∀ (x : St) (v0 : Nat) (v1 : Nat) (v2 : Int32), (isO ixC v0 4) → (isO ixC v1 4) → ff_SH_copyFrom_57 n x v0 v1 v2 = some (r, x') → ∀ (H : Heap) (locs : List Loc) (ls : Array Slot), Wd E ad ixC x H → va_S A s.heap H locs → lv_has ls 3 [(0, .ref (ad v0)), (1, .ref (ad v1)), (2, .int v2)] → W p l e rm_SH_copyFrom s m args below meth c H locs 0 0 (MQ below (QX E ad ixC A (none) x') args s 0 0 A) (F0 m 57 ls []) := by
  obtain ⟨hx, hb, hml, hr, hown, hts, hlk, hK⟩ := id C0
  intro n
  induction n with
  | zero => intro x v0 v1 v2 ho_v0 ho_v1 hf; exact of_no hf
  | succ n ih =>
    intro x v0 v1 v2 ho_v0 ho_v1 hf H locs ls hP hS hl
    have hf : (if (gi x (rf v0 0) 3) ≤ v2 then ff_SH_copyFrom_93 x v0 v1 else (if ixb v2 (ln (rf v1 5)) = true then (if ixb v2 (ln (rf v0 5)) = true then (if spb 0 100 (ln (rf (rf v1 5) (ix v2))) = true then (if spb 0 100 (ln (rf (rf v0 5) (ix v2))) = true then st (cpi x (rf (rf v1 5) (ix v2)) (ix 0) (rf (rf v0 5) (ix v2)) (ix 0) (ix 100)) (fun x_29 => ff_SH_copyFrom_57 n x_29 v0 v1 (v2 + 1)) else none) else none) else none) else none)) = some (r, x') := hf
    refine lv_iload_n hx hb dd_SH_copyFrom_57 rfl (lv_at hl 2 rfl) ?_
    refine lv_aload_n hx hb dd_SH_copyFrom_58 rfl (lv_at hl 0 rfl) ?_
    refine gf_SH_14 C0 hP ho_v0 dd_SH_copyFrom_59 ?_
    refine gf_SH_50 C0 hP (tp_4_0 ho_v0) dd_SH_copyFrom_62 ?_
    refine lv_icmp_ge (tgt := 93) hx hb dd_SH_copyFrom_65 (by decide) (fun h_16 => ?_) (fun h_16 => ?_)
    · have hf := (if_pos h_16).symm.trans hf
      exact ww_SH_copyFrom_93 C0 hap  ho_v0 ho_v1 hf hP hS (lv_sub hl [0, 1] rfl)
    · have hf := (if_neg h_16).symm.trans hf
      refine lv_aload_n hx hb dd_SH_copyFrom_68 rfl (lv_at hl 1 rfl) ?_
      refine gf_SH_34 C0 hP ho_v1 dd_SH_copyFrom_69 ?_
      refine lv_iload_n hx hb dd_SH_copyFrom_72 rfl (lv_at hl 2 rfl) ?_
      obtain ⟨h_25, hf⟩ := of_ifb hf
      refine raA C0 hP (tp_4_5 ho_v1) h_25 dd_SH_copyFrom_73 ?_
      refine lv_iconst (v := 0) hx hb dd_SH_copyFrom_74 (by decide) ?_
      refine lv_aload_n hx hb dd_SH_copyFrom_75 rfl (lv_at hl 0 rfl) ?_
      refine gf_SH_34 C0 hP ho_v0 dd_SH_copyFrom_76 ?_
      refine lv_iload_n hx hb dd_SH_copyFrom_79 rfl (lv_at hl 2 rfl) ?_
      obtain ⟨h_26, hf⟩ := of_ifb hf
      refine raA C0 hP (tp_4_5 ho_v0) h_26 dd_SH_copyFrom_80 ?_
      refine lv_iconst (v := 0) hx hb dd_SH_copyFrom_81 (by decide) ?_
      refine lv_bipush (v := 100) hx hb dd_SH_copyFrom_82 (by decide) ?_
      obtain ⟨h_27, hf⟩ := of_ifb hf
      obtain ⟨h_28, hf⟩ := of_ifb hf
      obtain ⟨x_29, hx_29, hf⟩ := of_st hf
      refine cpI C0 hap hP hS (tp_25 (tp_4_5 ho_v1) h_25) (tp_25 (tp_4_5 ho_v0) h_26) h_27 h_28 hx_29 hl.1 gw_m_SH_64 (Nat.le_of_ble_eq_true rfl) ⟨Nat.le_of_ble_eq_true rfl, Nat.le_of_ble_eq_true rfl⟩ dd_SH_copyFrom_84 (fun H locs hP hS => ?_)
      refine lv_iinc (v := v2 + 1) (lv' := [(2, .int (v2 + 1)), (0, .ref (ad v0)), (1, .ref (ad v1))]) hx hb dd_SH_copyFrom_87 hl (k := 2) rfl rfl (by decide) rfl (fun ls hl => ?_)
      refine lv_goto (tgt := 57) hx hb dd_SH_copyFrom_90 (by decide) ?_
      exact ih x_29 v0 v1 (v2 + 1) ho_v0 ho_v1 hf _ _ _ hP hS (lv_sub hl [1, 2, 0] rfl)
set_option maxHeartbeats 4000000 in
set_option maxRecDepth 100000 in
theorem ww_SH_copyFrom {p : Program} {l : Launch} {e : Env} {s : State} {m : MethodId} {args : Array Value} {below : List Frame} {meth : Method} {c : Code} {E : Ev} {A : Nat → Prop} {ad : Nat → Nat} {r : Unit} {x' : St} (C0 : Cx E A RSH bb_SH_copyFrom 3 (none) p s m args meth c) (hap : Ap ad ixC A)  {x : St} {v0 : Nat} {v1 : Nat} (ho_v0 : isO ixC v0 4) (ho_v1 : isO ixC v1 4) (hf : ff_SH_copyFrom x v0 v1 = some (r, x')) {H : Heap} {locs : List Loc} {ls : Array Slot} (hP : Wd E ad ixC x H) (hS : va_S A s.heap H locs) (hl : lv_has ls 3 [(0, .ref (ad v0)), (1, .ref (ad v1))]) : W p l e rm_SH_copyFrom s m args below meth c H locs 0 0 (MQ below (QX E ad ixC A (none) x') args s 0 0 A) (F0 m 0 ls []) := by
  obtain ⟨hx, hb, hml, hr, hown, hts, hlk, hK⟩ := id C0
  have hf : bnd (ff_LE_copyFrom x (rf v0 0) (rf v1 0)) (fun _ x_2 => bnd (ff_LE_copyFrom x_2 (rf v0 1) (rf v1 1)) (fun _ x_5 => bnd (ff_LE_copyFrom x_5 (rf v0 2) (rf v1 2)) (fun _ x_8 => bnd (ff_LE_copyFrom x_8 (rf v0 3) (rf v1 3)) (fun _ x_11 => bnd (ff_LE_copyFrom x_11 (rf v0 4) (rf v1 4)) (fun _ x_14 => ff_SH_copyFrom_57 FU x_14 v0 v1 0))))) = some (r, x') := hf
  refine lv_aload_n hx hb dd_SH_copyFrom_0 rfl (lv_at hl 0 rfl) ?_
  refine gf_SH_14 C0 hP ho_v0 dd_SH_copyFrom_1 ?_
  refine lv_aload_n hx hb dd_SH_copyFrom_4 rfl (lv_at hl 1 rfl) ?_
  refine gf_SH_14 C0 hP ho_v1 dd_SH_copyFrom_5 ?_
  obtain ⟨_, x_2, c_3, hf⟩ := of_bnd hf
  refine cl_SH_60 C0 hap (tp_4_0 ho_v0) (tp_4_0 ho_v1) c_3 hP hS ⟨Nat.le_of_ble_eq_true rfl, Nat.le_of_ble_eq_true rfl⟩ hl.1 (Nat.le_of_ble_eq_true rfl) dd_SH_copyFrom_8 ⟨Nat.le_refl _, Nat.le_refl _⟩ (fun H locs hP hS => ?_)
  refine lv_aload_n hx hb dd_SH_copyFrom_11 rfl (lv_at hl 0 rfl) ?_
  refine gf_SH_20 C0 hP ho_v0 dd_SH_copyFrom_12 ?_
  refine lv_aload_n hx hb dd_SH_copyFrom_15 rfl (lv_at hl 1 rfl) ?_
  refine gf_SH_20 C0 hP ho_v1 dd_SH_copyFrom_16 ?_
  obtain ⟨_, x_5, c_6, hf⟩ := of_bnd hf
  refine cl_SH_60 C0 hap (tp_4_1 ho_v0) (tp_4_1 ho_v1) c_6 hP hS ⟨Nat.le_of_ble_eq_true rfl, Nat.le_of_ble_eq_true rfl⟩ hl.1 (Nat.le_of_ble_eq_true rfl) dd_SH_copyFrom_19 ⟨Nat.le_refl _, Nat.le_refl _⟩ (fun H locs hP hS => ?_)
  refine lv_aload_n hx hb dd_SH_copyFrom_22 rfl (lv_at hl 0 rfl) ?_
  refine gf_SH_23 C0 hP ho_v0 dd_SH_copyFrom_23 ?_
  refine lv_aload_n hx hb dd_SH_copyFrom_26 rfl (lv_at hl 1 rfl) ?_
  refine gf_SH_23 C0 hP ho_v1 dd_SH_copyFrom_27 ?_
  obtain ⟨_, x_8, c_9, hf⟩ := of_bnd hf
  refine cl_SH_60 C0 hap (tp_4_2 ho_v0) (tp_4_2 ho_v1) c_9 hP hS ⟨Nat.le_of_ble_eq_true rfl, Nat.le_of_ble_eq_true rfl⟩ hl.1 (Nat.le_of_ble_eq_true rfl) dd_SH_copyFrom_30 ⟨Nat.le_refl _, Nat.le_refl _⟩ (fun H locs hP hS => ?_)
  refine lv_aload_n hx hb dd_SH_copyFrom_33 rfl (lv_at hl 0 rfl) ?_
  refine gf_SH_26 C0 hP ho_v0 dd_SH_copyFrom_34 ?_
  refine lv_aload_n hx hb dd_SH_copyFrom_37 rfl (lv_at hl 1 rfl) ?_
  refine gf_SH_26 C0 hP ho_v1 dd_SH_copyFrom_38 ?_
  obtain ⟨_, x_11, c_12, hf⟩ := of_bnd hf
  refine cl_SH_60 C0 hap (tp_4_3 ho_v0) (tp_4_3 ho_v1) c_12 hP hS ⟨Nat.le_of_ble_eq_true rfl, Nat.le_of_ble_eq_true rfl⟩ hl.1 (Nat.le_of_ble_eq_true rfl) dd_SH_copyFrom_41 ⟨Nat.le_refl _, Nat.le_refl _⟩ (fun H locs hP hS => ?_)
  refine lv_aload_n hx hb dd_SH_copyFrom_44 rfl (lv_at hl 0 rfl) ?_
  refine gf_SH_29 C0 hP ho_v0 dd_SH_copyFrom_45 ?_
  refine lv_aload_n hx hb dd_SH_copyFrom_48 rfl (lv_at hl 1 rfl) ?_
  refine gf_SH_29 C0 hP ho_v1 dd_SH_copyFrom_49 ?_
  obtain ⟨_, x_14, c_15, hf⟩ := of_bnd hf
  refine cl_SH_60 C0 hap (tp_4_4 ho_v0) (tp_4_4 ho_v1) c_15 hP hS ⟨Nat.le_of_ble_eq_true rfl, Nat.le_of_ble_eq_true rfl⟩ hl.1 (Nat.le_of_ble_eq_true rfl) dd_SH_copyFrom_52 ⟨Nat.le_refl _, Nat.le_refl _⟩ (fun H locs hP hS => ?_)
  refine lv_iconst (v := 0) hx hb dd_SH_copyFrom_55 (by decide) ?_
  refine lv_istore_n (lv' := [(2, .int 0), (0, .ref (ad v0)), (1, .ref (ad v1))]) hx hb dd_SH_copyFrom_56 rfl hl (by decide) rfl (fun ls hl => ?_)
  exact ww_SH_copyFrom_57 C0 hap  FU x_14 v0 v1 0 ho_v0 ho_v1 hf _ _ _ hP hS (lv_sub hl [1, 2, 0] rfl)
theorem cc_SH_copyFrom {l : Launch} {E : Ev} {A : Nat → Prop} {ad : Nat → Nat} (hap : Ap ad ixC A) {x x' : St} {v0 : Nat} {v1 : Nat} {r : Unit} (ho_v0 : isO ixC v0 4) (ho_v1 : isO ixC v1 4) (hf : ff_SH_copyFrom x v0 v1 = some (r, x')) : Met l yy_SH_copyFrom (Cond.code yy_SH_copyFrom bb_SH_copyFrom 3 (none) :: gtb) rm_SH_copyFrom (va_Pc [.ref (ad v0), .ref (ad v1)] (PB E A ad ixC x)) (QX E ad ixC A (none) x') 0 0 A := by
  exact enter (by decide) (Nat.le_of_ble_eq_true rfl) (fun p e s m below meth c ls C0 hP hS hl => ww_SH_copyFrom C0 hap ho_v0 ho_v1 hf hP hS hl)
theorem cl_SH_89 {p : Program} {l : Launch} {e : Env} {R : Room} {s : State} {m : MethodId} {args : Array Value} {below : List Frame} {meth : Method} {c : Code} {H : Heap} {locs : List Loc} {cells slots : Nat} {Q : State → Prop} {cc : ByteArray} {pc : Nat} {ls : Array Slot} {rest : List Value} {E : Ev} {A : Nat → Prop} {ad : Nat → Nat} {nL : Nat} {rt : Option FieldType} (C0 : Cx E A RSH cc nL rt p s m args meth c) (hap : Ap ad ixC A) {x x' : St} {v0 : Nat} {v1 : Nat} {v2 : Int32} {v3 : Int32} {r : Unit} (ho_v0 : isO ixC v0 4) (ho_v1 : isO ixC v1 20) (hc : ff_SH_fillGriefs x v0 v1 v2 v3 = some (r, x')) (hP : Wd E ad ixC x H) (hS : va_S A s.heap H locs) (hR : rm_SH_fillGriefs.frames + 1 ≤ R.frames ∧ 8 + (8 + 11) + rm_SH_fillGriefs.locals ≤ R.locals) (hls : ls.size = nL) (hroom : (rest.map fun v => v.category).sum ≤ 8) (hdg : decode cc pc = .ok (.invokevirtual 89, 3)) (hf : cells ≤ R.cells ∧ slots ≤ R.slots) (kk : ∀ H1 locs1, Wd E ad ixC x' H1 → va_S A s.heap H1 locs1 → W p l e R s m args below meth c H1 locs1 cells slots Q (F0 m (pc + 3) ls (rest))) : W p l e R s m args below meth c H locs cells slots Q (F0 m pc ls (.int v3 :: .int v2 :: .ref (ad v1) :: .ref (ad v0) :: rest)) :=
  rcV (n := 3) C0 (cc_SH_fillGriefs hap ho_v0 ho_v1 hc) hP hS ho_v0 vcl_4 (by decide) gw_code_SH_fillGriefs gw_m_SH_89 gw_inst_SH_fillGriefs gw_sel_SH_fillGriefs gw_ini_SH rfl rfl (by decide +kernel) rfl hR hls rfl hroom hdg hf (fun H1 locs1 a _ _ b => kk H1 locs1 a b)
abbrev rm_SH_renewGriefs : Room := { frames := 4, cells := 0, slots := 0, locals := 93 }
theorem dd_SH_renewGriefs_0 : decode bb_SH_renewGriefs 0 = .ok (.aload_n 0, 1) := by decide +kernel
theorem dd_SH_renewGriefs_1 : decode bb_SH_renewGriefs 1 = .ok (.getfield 14, 3) := by decide +kernel
theorem dd_SH_renewGriefs_4 : decode bb_SH_renewGriefs 4 = .ok (.iload_n 1, 1) := by decide +kernel
theorem dd_SH_renewGriefs_5 : decode bb_SH_renewGriefs 5 = .ok (.invokevirtual 85, 3) := by decide +kernel
theorem dd_SH_renewGriefs_8 : decode bb_SH_renewGriefs 8 = .ok (.ifCond .eq 15, 3) := by decide +kernel
theorem dd_SH_renewGriefs_11 : decode bb_SH_renewGriefs 11 = .ok (.aload_n 0, 1) := by decide +kernel
theorem dd_SH_renewGriefs_12 : decode bb_SH_renewGriefs 12 = .ok (.aload_n 0, 1) := by decide +kernel
theorem dd_SH_renewGriefs_13 : decode bb_SH_renewGriefs 13 = .ok (.getfield 34, 3) := by decide +kernel
theorem dd_SH_renewGriefs_16 : decode bb_SH_renewGriefs 16 = .ok (.iload_n 1, 1) := by decide +kernel
theorem dd_SH_renewGriefs_17 : decode bb_SH_renewGriefs 17 = .ok (.aaload, 1) := by decide +kernel
theorem dd_SH_renewGriefs_18 : decode bb_SH_renewGriefs 18 = .ok (.iload_n 1, 1) := by decide +kernel
theorem dd_SH_renewGriefs_19 : decode bb_SH_renewGriefs 19 = .ok (.iconst (-1), 1) := by decide +kernel
theorem dd_SH_renewGriefs_20 : decode bb_SH_renewGriefs 20 = .ok (.invokevirtual 89, 3) := by decide +kernel
theorem dd_SH_renewGriefs_23 : decode bb_SH_renewGriefs 23 = .ok (.return_, 1) := by decide +kernel
def ff_SH_renewGriefs  (x : St) (v0 : Nat) (v1 : Int32) : Option (Unit × St) := bnd (ff_LE_has x (rf v0 0) v1) (fun r_1 x_2 => (if r_1 = 0 then some ((), x_2) else (if ixb v1 (ln (rf v0 5)) = true then bnd (ff_SH_fillGriefs x_2 v0 (rf (rf v0 5) (ix v1)) v1 (-1)) (fun _ x_7 => some ((), x_7)) else none)))
set_option maxHeartbeats 4000000 in
set_option maxRecDepth 100000 in
theorem ww_SH_renewGriefs {p : Program} {l : Launch} {e : Env} {s : State} {m : MethodId} {args : Array Value} {below : List Frame} {meth : Method} {c : Code} {E : Ev} {A : Nat → Prop} {ad : Nat → Nat} {r : Unit} {x' : St} (C0 : Cx E A RSH bb_SH_renewGriefs 2 (none) p s m args meth c) (hap : Ap ad ixC A)  {x : St} {v0 : Nat} {v1 : Int32} (ho_v0 : isO ixC v0 4) (hf : ff_SH_renewGriefs x v0 v1 = some (r, x')) {H : Heap} {locs : List Loc} {ls : Array Slot} (hP : Wd E ad ixC x H) (hS : va_S A s.heap H locs) (hl : lv_has ls 2 [(0, .ref (ad v0)), (1, .int v1)]) : W p l e rm_SH_renewGriefs s m args below meth c H locs 0 0 (MQ below (QX E ad ixC A (none) x') args s 0 0 A) (F0 m 0 ls []) := by
  obtain ⟨hx, hb, hml, hr, hown, hts, hlk, hK⟩ := id C0
  have hf : bnd (ff_LE_has x (rf v0 0) v1) (fun r_1 x_2 => (if r_1 = 0 then some ((), x_2) else (if ixb v1 (ln (rf v0 5)) = true then bnd (ff_SH_fillGriefs x_2 v0 (rf (rf v0 5) (ix v1)) v1 (-1)) (fun _ x_7 => some ((), x_7)) else none))) = some (r, x') := hf
  refine lv_aload_n hx hb dd_SH_renewGriefs_0 rfl (lv_at hl 0 rfl) ?_
  refine gf_SH_14 C0 hP ho_v0 dd_SH_renewGriefs_1 ?_
  refine lv_iload_n hx hb dd_SH_renewGriefs_4 rfl (lv_at hl 1 rfl) ?_
  obtain ⟨r_1, x_2, c_3, hf⟩ := of_bnd hf
  refine cl_SH_85 C0 hap (tp_4_0 ho_v0) c_3 hP hS ⟨Nat.le_of_ble_eq_true rfl, Nat.le_of_ble_eq_true rfl⟩ hl.1 (Nat.le_of_ble_eq_true rfl) dd_SH_renewGriefs_5 ⟨Nat.le_refl _, Nat.le_refl _⟩ (fun H locs hP hS => ?_)
  refine lv_if_eq (tgt := 23) hx hb dd_SH_renewGriefs_8 (by decide) (fun h_4 => ?_) (fun h_4 => ?_)
  · have hf := (if_pos h_4).symm.trans hf
    exact rrV C0 hP hS dd_SH_renewGriefs_23 hf
  · have hf := (if_neg h_4).symm.trans hf
    refine lv_aload_n hx hb dd_SH_renewGriefs_11 rfl (lv_at hl 0 rfl) ?_
    refine lv_aload_n hx hb dd_SH_renewGriefs_12 rfl (lv_at hl 0 rfl) ?_
    refine gf_SH_34 C0 hP ho_v0 dd_SH_renewGriefs_13 ?_
    refine lv_iload_n hx hb dd_SH_renewGriefs_16 rfl (lv_at hl 1 rfl) ?_
    obtain ⟨h_5, hf⟩ := of_ifb hf
    refine raA C0 hP (tp_4_5 ho_v0) h_5 dd_SH_renewGriefs_17 ?_
    refine lv_iload_n hx hb dd_SH_renewGriefs_18 rfl (lv_at hl 1 rfl) ?_
    refine lv_iconst (v := -1) hx hb dd_SH_renewGriefs_19 (by decide) ?_
    obtain ⟨_, x_7, c_8, hf⟩ := of_bnd hf
    refine cl_SH_89 C0 hap ho_v0 (tp_25 (tp_4_5 ho_v0) h_5) c_8 hP hS ⟨Nat.le_of_ble_eq_true rfl, Nat.le_of_ble_eq_true rfl⟩ hl.1 (Nat.le_of_ble_eq_true rfl) dd_SH_renewGriefs_20 ⟨Nat.le_refl _, Nat.le_refl _⟩ (fun H locs hP hS => ?_)
    exact rrV C0 hP hS dd_SH_renewGriefs_23 hf
theorem cc_SH_renewGriefs {l : Launch} {E : Ev} {A : Nat → Prop} {ad : Nat → Nat} (hap : Ap ad ixC A) {x x' : St} {v0 : Nat} {v1 : Int32} {r : Unit} (ho_v0 : isO ixC v0 4) (hf : ff_SH_renewGriefs x v0 v1 = some (r, x')) : Met l yy_SH_renewGriefs (Cond.code yy_SH_renewGriefs bb_SH_renewGriefs 2 (none) :: gtb) rm_SH_renewGriefs (va_Pc [.ref (ad v0), .int v1] (PB E A ad ixC x)) (QX E ad ixC A (none) x') 0 0 A := by
  exact enter (by decide) (Nat.le_of_ble_eq_true rfl) (fun p e s m below meth c ls C0 hP hS hl => ww_SH_renewGriefs C0 hap ho_v0 hf hP hS hl)
theorem cl_SH_70 {p : Program} {l : Launch} {e : Env} {R : Room} {s : State} {m : MethodId} {args : Array Value} {below : List Frame} {meth : Method} {c : Code} {H : Heap} {locs : List Loc} {cells slots : Nat} {Q : State → Prop} {cc : ByteArray} {pc : Nat} {ls : Array Slot} {rest : List Value} {E : Ev} {A : Nat → Prop} {ad : Nat → Nat} {nL : Nat} {rt : Option FieldType} (C0 : Cx E A RSH cc nL rt p s m args meth c) (hap : Ap ad ixC A) {x x' : St} {v0 : Nat} {v1 : Int32} {v2 : Int32} {v3 : Int32} {r : Int32} (ho_v0 : isO ixC v0 1) (hc : ff_LE_add x v0 v1 v2 v3 = some (r, x')) (hP : Wd E ad ixC x H) (hS : va_S A s.heap H locs) (hR : rm_LE_add.frames + 1 ≤ R.frames ∧ 8 + (5 + 11) + rm_LE_add.locals ≤ R.locals) (hls : ls.size = nL) (hroom : (rest.map fun v => v.category).sum ≤ 8) (hdg : decode cc pc = .ok (.invokevirtual 70, 3)) (hf : cells ≤ R.cells ∧ slots ≤ R.slots) (kk : ∀ H1 locs1, Wd E ad ixC x' H1 → va_S A s.heap H1 locs1 → W p l e R s m args below meth c H1 locs1 cells slots Q (F0 m (pc + 3) ls (.int r :: rest))) : W p l e R s m args below meth c H locs cells slots Q (F0 m pc ls (.int v3 :: .int v2 :: .int v1 :: .ref (ad v0) :: rest)) :=
  rcV (n := 3) C0 (cc_LE_add hap ho_v0 hc) hP hS ho_v0 vcl_1 (by decide) gw_code_LE_add gw_m_SH_70 gw_inst_LE_add gw_sel_LE_add gw_ini_LE rfl rfl (by decide +kernel) rfl hR hls rfl hroom hdg hf (fun H1 locs1 a _ _ b => kk H1 locs1 a b)
theorem cl_SH_74 {p : Program} {l : Launch} {e : Env} {R : Room} {s : State} {m : MethodId} {args : Array Value} {below : List Frame} {meth : Method} {c : Code} {H : Heap} {locs : List Loc} {cells slots : Nat} {Q : State → Prop} {cc : ByteArray} {pc : Nat} {ls : Array Slot} {rest : List Value} {E : Ev} {A : Nat → Prop} {ad : Nat → Nat} {nL : Nat} {rt : Option FieldType} (C0 : Cx E A RSH cc nL rt p s m args meth c) (hap : Ap ad ixC A) {x x' : St} {v0 : Nat} {v1 : Int32} {r : Unit} (ho_v0 : isO ixC v0 4) (hc : ff_SH_renewGriefs x v0 v1 = some (r, x')) (hP : Wd E ad ixC x H) (hS : va_S A s.heap H locs) (hR : rm_SH_renewGriefs.frames + 1 ≤ R.frames ∧ 8 + (2 + 11) + rm_SH_renewGriefs.locals ≤ R.locals) (hls : ls.size = nL) (hroom : (rest.map fun v => v.category).sum ≤ 8) (hdg : decode cc pc = .ok (.invokevirtual 74, 3)) (hf : cells ≤ R.cells ∧ slots ≤ R.slots) (kk : ∀ H1 locs1, Wd E ad ixC x' H1 → va_S A s.heap H1 locs1 → W p l e R s m args below meth c H1 locs1 cells slots Q (F0 m (pc + 3) ls (rest))) : W p l e R s m args below meth c H locs cells slots Q (F0 m pc ls (.int v1 :: .ref (ad v0) :: rest)) :=
  rcV (n := 1) C0 (cc_SH_renewGriefs hap ho_v0 hc) hP hS ho_v0 vcl_4 (by decide) gw_code_SH_renewGriefs gw_m_SH_74 gw_inst_SH_renewGriefs gw_sel_SH_renewGriefs gw_ini_SH rfl rfl (by decide +kernel) rfl hR hls rfl hroom hdg hf (fun H1 locs1 a _ _ b => kk H1 locs1 a b)
abbrev rm_SH_addMourner : Room := { frames := 5, cells := 0, slots := 0, locals := 114 }
theorem dd_SH_addMourner_0 : decode bb_SH_addMourner 0 = .ok (.aload_n 0, 1) := by decide +kernel
theorem dd_SH_addMourner_1 : decode bb_SH_addMourner 1 = .ok (.getfield 14, 3) := by decide +kernel
theorem dd_SH_addMourner_4 : decode bb_SH_addMourner 4 = .ok (.iload_n 1, 1) := by decide +kernel
theorem dd_SH_addMourner_5 : decode bb_SH_addMourner 5 = .ok (.iload_n 2, 1) := by decide +kernel
theorem dd_SH_addMourner_6 : decode bb_SH_addMourner 6 = .ok (.iload_n 3, 1) := by decide +kernel
theorem dd_SH_addMourner_7 : decode bb_SH_addMourner 7 = .ok (.invokevirtual 70, 3) := by decide +kernel
theorem dd_SH_addMourner_10 : decode bb_SH_addMourner 10 = .ok (.istore 4, 2) := by decide +kernel
theorem dd_SH_addMourner_12 : decode bb_SH_addMourner 12 = .ok (.aload_n 0, 1) := by decide +kernel
theorem dd_SH_addMourner_13 : decode bb_SH_addMourner 13 = .ok (.iload 4, 2) := by decide +kernel
theorem dd_SH_addMourner_15 : decode bb_SH_addMourner 15 = .ok (.invokevirtual 74, 3) := by decide +kernel
theorem dd_SH_addMourner_18 : decode bb_SH_addMourner 18 = .ok (.iload 4, 2) := by decide +kernel
theorem dd_SH_addMourner_20 : decode bb_SH_addMourner 20 = .ok (.ireturn, 1) := by decide +kernel
def ff_SH_addMourner  (x : St) (v0 : Nat) (v1 : Int32) (v2 : Int32) (v3 : Int32) : Option (Int32 × St) := bnd (ff_LE_add x (rf v0 0) v1 v2 v3) (fun r_1 x_2 => bnd (ff_SH_renewGriefs x_2 v0 r_1) (fun _ x_5 => some (r_1, x_5)))
set_option maxHeartbeats 4000000 in
set_option maxRecDepth 100000 in
theorem ww_SH_addMourner {p : Program} {l : Launch} {e : Env} {s : State} {m : MethodId} {args : Array Value} {below : List Frame} {meth : Method} {c : Code} {E : Ev} {A : Nat → Prop} {ad : Nat → Nat} {r : Int32} {x' : St} (C0 : Cx E A RSH bb_SH_addMourner 5 (some .int) p s m args meth c) (hap : Ap ad ixC A)  {x : St} {v0 : Nat} {v1 : Int32} {v2 : Int32} {v3 : Int32} (ho_v0 : isO ixC v0 4) (hf : ff_SH_addMourner x v0 v1 v2 v3 = some (r, x')) {H : Heap} {locs : List Loc} {ls : Array Slot} (hP : Wd E ad ixC x H) (hS : va_S A s.heap H locs) (hl : lv_has ls 5 [(0, .ref (ad v0)), (1, .int v1), (2, .int v2), (3, .int v3)]) : W p l e rm_SH_addMourner s m args below meth c H locs 0 0 (MQ below (QX E ad ixC A (some (.int r)) x') args s 0 0 A) (F0 m 0 ls []) := by
  obtain ⟨hx, hb, hml, hr, hown, hts, hlk, hK⟩ := id C0
  have hf : bnd (ff_LE_add x (rf v0 0) v1 v2 v3) (fun r_1 x_2 => bnd (ff_SH_renewGriefs x_2 v0 r_1) (fun _ x_5 => some (r_1, x_5))) = some (r, x') := hf
  refine lv_aload_n hx hb dd_SH_addMourner_0 rfl (lv_at hl 0 rfl) ?_
  refine gf_SH_14 C0 hP ho_v0 dd_SH_addMourner_1 ?_
  refine lv_iload_n hx hb dd_SH_addMourner_4 rfl (lv_at hl 1 rfl) ?_
  refine lv_iload_n hx hb dd_SH_addMourner_5 rfl (lv_at hl 2 rfl) ?_
  refine lv_iload_n hx hb dd_SH_addMourner_6 rfl (lv_at hl 3 rfl) ?_
  obtain ⟨r_1, x_2, c_3, hf⟩ := of_bnd hf
  refine cl_SH_70 C0 hap (tp_4_0 ho_v0) c_3 hP hS ⟨Nat.le_of_ble_eq_true rfl, Nat.le_of_ble_eq_true rfl⟩ hl.1 (Nat.le_of_ble_eq_true rfl) dd_SH_addMourner_7 ⟨Nat.le_refl _, Nat.le_refl _⟩ (fun H locs hP hS => ?_)
  refine lv_istore (lv' := [(4, .int r_1), (0, .ref (ad v0)), (1, .int v1), (2, .int v2), (3, .int v3)]) hx hb dd_SH_addMourner_10 hl (by decide) rfl (fun ls hl => ?_)
  refine lv_aload_n hx hb dd_SH_addMourner_12 rfl (lv_at hl 1 rfl) ?_
  refine lv_iload hx hb dd_SH_addMourner_13 (lv_at hl 0 rfl) ?_
  obtain ⟨_, x_5, c_6, hf⟩ := of_bnd hf
  refine cl_SH_74 C0 hap ho_v0 c_6 hP hS ⟨Nat.le_of_ble_eq_true rfl, Nat.le_of_ble_eq_true rfl⟩ hl.1 (Nat.le_of_ble_eq_true rfl) dd_SH_addMourner_15 ⟨Nat.le_refl _, Nat.le_refl _⟩ (fun H locs hP hS => ?_)
  refine lv_iload hx hb dd_SH_addMourner_18 (lv_at hl 0 rfl) ?_
  exact rrI C0 hP hS dd_SH_addMourner_20 hf
theorem cc_SH_addMourner {l : Launch} {E : Ev} {A : Nat → Prop} {ad : Nat → Nat} (hap : Ap ad ixC A) {x x' : St} {v0 : Nat} {v1 : Int32} {v2 : Int32} {v3 : Int32} {r : Int32} (ho_v0 : isO ixC v0 4) (hf : ff_SH_addMourner x v0 v1 v2 v3 = some (r, x')) : Met l yy_SH_addMourner (Cond.code yy_SH_addMourner bb_SH_addMourner 5 (some .int) :: gtb) rm_SH_addMourner (va_Pc [.ref (ad v0), .int v1, .int v2, .int v3] (PB E A ad ixC x)) (QX E ad ixC A (some (.int r)) x') 0 0 A := by
  exact enter (by decide) (Nat.le_of_ble_eq_true rfl) (fun p e s m below meth c ls C0 hP hS hl => ww_SH_addMourner C0 hap ho_v0 hf hP hS hl)
abbrev rm_SH_addFeast : Room := { frames := 5, cells := 0, slots := 0, locals := 114 }
theorem dd_SH_addFeast_0 : decode bb_SH_addFeast 0 = .ok (.aload_n 0, 1) := by decide +kernel
theorem dd_SH_addFeast_1 : decode bb_SH_addFeast 1 = .ok (.getfield 26, 3) := by decide +kernel
theorem dd_SH_addFeast_4 : decode bb_SH_addFeast 4 = .ok (.iload_n 1, 1) := by decide +kernel
theorem dd_SH_addFeast_5 : decode bb_SH_addFeast 5 = .ok (.iload_n 2, 1) := by decide +kernel
theorem dd_SH_addFeast_6 : decode bb_SH_addFeast 6 = .ok (.iload_n 3, 1) := by decide +kernel
theorem dd_SH_addFeast_7 : decode bb_SH_addFeast 7 = .ok (.invokevirtual 70, 3) := by decide +kernel
theorem dd_SH_addFeast_10 : decode bb_SH_addFeast 10 = .ok (.istore 4, 2) := by decide +kernel
theorem dd_SH_addFeast_12 : decode bb_SH_addFeast 12 = .ok (.aload_n 0, 1) := by decide +kernel
theorem dd_SH_addFeast_13 : decode bb_SH_addFeast 13 = .ok (.iload_n 3, 1) := by decide +kernel
theorem dd_SH_addFeast_14 : decode bb_SH_addFeast 14 = .ok (.invokevirtual 74, 3) := by decide +kernel
theorem dd_SH_addFeast_17 : decode bb_SH_addFeast 17 = .ok (.iload 4, 2) := by decide +kernel
theorem dd_SH_addFeast_19 : decode bb_SH_addFeast 19 = .ok (.ireturn, 1) := by decide +kernel
def ff_SH_addFeast  (x : St) (v0 : Nat) (v1 : Int32) (v2 : Int32) (v3 : Int32) : Option (Int32 × St) := bnd (ff_LE_add x (rf v0 3) v1 v2 v3) (fun r_1 x_2 => bnd (ff_SH_renewGriefs x_2 v0 v3) (fun _ x_5 => some (r_1, x_5)))
set_option maxHeartbeats 4000000 in
set_option maxRecDepth 100000 in
theorem ww_SH_addFeast {p : Program} {l : Launch} {e : Env} {s : State} {m : MethodId} {args : Array Value} {below : List Frame} {meth : Method} {c : Code} {E : Ev} {A : Nat → Prop} {ad : Nat → Nat} {r : Int32} {x' : St} (C0 : Cx E A RSH bb_SH_addFeast 5 (some .int) p s m args meth c) (hap : Ap ad ixC A)  {x : St} {v0 : Nat} {v1 : Int32} {v2 : Int32} {v3 : Int32} (ho_v0 : isO ixC v0 4) (hf : ff_SH_addFeast x v0 v1 v2 v3 = some (r, x')) {H : Heap} {locs : List Loc} {ls : Array Slot} (hP : Wd E ad ixC x H) (hS : va_S A s.heap H locs) (hl : lv_has ls 5 [(0, .ref (ad v0)), (1, .int v1), (2, .int v2), (3, .int v3)]) : W p l e rm_SH_addFeast s m args below meth c H locs 0 0 (MQ below (QX E ad ixC A (some (.int r)) x') args s 0 0 A) (F0 m 0 ls []) := by
  obtain ⟨hx, hb, hml, hr, hown, hts, hlk, hK⟩ := id C0
  have hf : bnd (ff_LE_add x (rf v0 3) v1 v2 v3) (fun r_1 x_2 => bnd (ff_SH_renewGriefs x_2 v0 v3) (fun _ x_5 => some (r_1, x_5))) = some (r, x') := hf
  refine lv_aload_n hx hb dd_SH_addFeast_0 rfl (lv_at hl 0 rfl) ?_
  refine gf_SH_26 C0 hP ho_v0 dd_SH_addFeast_1 ?_
  refine lv_iload_n hx hb dd_SH_addFeast_4 rfl (lv_at hl 1 rfl) ?_
  refine lv_iload_n hx hb dd_SH_addFeast_5 rfl (lv_at hl 2 rfl) ?_
  refine lv_iload_n hx hb dd_SH_addFeast_6 rfl (lv_at hl 3 rfl) ?_
  obtain ⟨r_1, x_2, c_3, hf⟩ := of_bnd hf
  refine cl_SH_70 C0 hap (tp_4_3 ho_v0) c_3 hP hS ⟨Nat.le_of_ble_eq_true rfl, Nat.le_of_ble_eq_true rfl⟩ hl.1 (Nat.le_of_ble_eq_true rfl) dd_SH_addFeast_7 ⟨Nat.le_refl _, Nat.le_refl _⟩ (fun H locs hP hS => ?_)
  refine lv_istore (lv' := [(4, .int r_1), (0, .ref (ad v0)), (1, .int v1), (2, .int v2), (3, .int v3)]) hx hb dd_SH_addFeast_10 hl (by decide) rfl (fun ls hl => ?_)
  refine lv_aload_n hx hb dd_SH_addFeast_12 rfl (lv_at hl 1 rfl) ?_
  refine lv_iload_n hx hb dd_SH_addFeast_13 rfl (lv_at hl 4 rfl) ?_
  obtain ⟨_, x_5, c_6, hf⟩ := of_bnd hf
  refine cl_SH_74 C0 hap ho_v0 c_6 hP hS ⟨Nat.le_of_ble_eq_true rfl, Nat.le_of_ble_eq_true rfl⟩ hl.1 (Nat.le_of_ble_eq_true rfl) dd_SH_addFeast_14 ⟨Nat.le_refl _, Nat.le_refl _⟩ (fun H locs hP hS => ?_)
  refine lv_iload hx hb dd_SH_addFeast_17 (lv_at hl 0 rfl) ?_
  exact rrI C0 hP hS dd_SH_addFeast_19 hf
theorem cc_SH_addFeast {l : Launch} {E : Ev} {A : Nat → Prop} {ad : Nat → Nat} (hap : Ap ad ixC A) {x x' : St} {v0 : Nat} {v1 : Int32} {v2 : Int32} {v3 : Int32} {r : Int32} (ho_v0 : isO ixC v0 4) (hf : ff_SH_addFeast x v0 v1 v2 v3 = some (r, x')) : Met l yy_SH_addFeast (Cond.code yy_SH_addFeast bb_SH_addFeast 5 (some .int) :: gtb) rm_SH_addFeast (va_Pc [.ref (ad v0), .int v1, .int v2, .int v3] (PB E A ad ixC x)) (QX E ad ixC A (some (.int r)) x') 0 0 A := by
  exact enter (by decide) (Nat.le_of_ble_eq_true rfl) (fun p e s m below meth c ls C0 hP hS hl => ww_SH_addFeast C0 hap ho_v0 hf hP hS hl)
theorem cl_SH_82 {p : Program} {l : Launch} {e : Env} {R : Room} {s : State} {m : MethodId} {args : Array Value} {below : List Frame} {meth : Method} {c : Code} {H : Heap} {locs : List Loc} {cells slots : Nat} {Q : State → Prop} {cc : ByteArray} {pc : Nat} {ls : Array Slot} {rest : List Value} {E : Ev} {A : Nat → Prop} {ad : Nat → Nat} {nL : Nat} {rt : Option FieldType} (C0 : Cx E A RSH cc nL rt p s m args meth c) (hap : Ap ad ixC A) {x x' : St} {v0 : Nat} {r : Unit} (ho_v0 : isO ixC v0 1) (hc : ff_LE_dropLast x v0 = some (r, x')) (hP : Wd E ad ixC x H) (hS : va_S A s.heap H locs) (hR : rm_LE_dropLast.frames + 1 ≤ R.frames ∧ 8 + (1 + 11) + rm_LE_dropLast.locals ≤ R.locals) (hls : ls.size = nL) (hroom : (rest.map fun v => v.category).sum ≤ 8) (hdg : decode cc pc = .ok (.invokevirtual 82, 3)) (hf : cells ≤ R.cells ∧ slots ≤ R.slots) (kk : ∀ H1 locs1, Wd E ad ixC x' H1 → va_S A s.heap H1 locs1 → W p l e R s m args below meth c H1 locs1 cells slots Q (F0 m (pc + 3) ls (rest))) : W p l e R s m args below meth c H locs cells slots Q (F0 m pc ls (.ref (ad v0) :: rest)) :=
  rcV (n := 0) C0 (cc_LE_dropLast hap ho_v0 hc) hP hS ho_v0 vcl_1 (by decide) gw_code_LE_dropLast gw_m_SH_82 gw_inst_LE_dropLast gw_sel_LE_dropLast gw_ini_LE rfl rfl (by decide +kernel) rfl hR hls rfl hroom hdg hf (fun H1 locs1 a _ _ b => kk H1 locs1 a b)
abbrev rm_SH_dropFeast : Room := { frames := 5, cells := 0, slots := 0, locals := 114 }
theorem dd_SH_dropFeast_0 : decode bb_SH_dropFeast 0 = .ok (.aload_n 0, 1) := by decide +kernel
theorem dd_SH_dropFeast_1 : decode bb_SH_dropFeast 1 = .ok (.getfield 26, 3) := by decide +kernel
theorem dd_SH_dropFeast_4 : decode bb_SH_dropFeast 4 = .ok (.aload_n 0, 1) := by decide +kernel
theorem dd_SH_dropFeast_5 : decode bb_SH_dropFeast 5 = .ok (.getfield 26, 3) := by decide +kernel
theorem dd_SH_dropFeast_8 : decode bb_SH_dropFeast 8 = .ok (.getfield 50, 3) := by decide +kernel
theorem dd_SH_dropFeast_11 : decode bb_SH_dropFeast 11 = .ok (.iconst 1, 1) := by decide +kernel
theorem dd_SH_dropFeast_12 : decode bb_SH_dropFeast 12 = .ok (.isub, 1) := by decide +kernel
theorem dd_SH_dropFeast_13 : decode bb_SH_dropFeast 13 = .ok (.iconst 2, 1) := by decide +kernel
theorem dd_SH_dropFeast_14 : decode bb_SH_dropFeast 14 = .ok (.invokevirtual 78, 3) := by decide +kernel
theorem dd_SH_dropFeast_17 : decode bb_SH_dropFeast 17 = .ok (.istore_n 1, 1) := by decide +kernel
theorem dd_SH_dropFeast_18 : decode bb_SH_dropFeast 18 = .ok (.aload_n 0, 1) := by decide +kernel
theorem dd_SH_dropFeast_19 : decode bb_SH_dropFeast 19 = .ok (.getfield 26, 3) := by decide +kernel
theorem dd_SH_dropFeast_22 : decode bb_SH_dropFeast 22 = .ok (.invokevirtual 82, 3) := by decide +kernel
theorem dd_SH_dropFeast_25 : decode bb_SH_dropFeast 25 = .ok (.aload_n 0, 1) := by decide +kernel
theorem dd_SH_dropFeast_26 : decode bb_SH_dropFeast 26 = .ok (.iload_n 1, 1) := by decide +kernel
theorem dd_SH_dropFeast_27 : decode bb_SH_dropFeast 27 = .ok (.invokevirtual 74, 3) := by decide +kernel
theorem dd_SH_dropFeast_30 : decode bb_SH_dropFeast 30 = .ok (.return_, 1) := by decide +kernel
def ff_SH_dropFeast  (x : St) (v0 : Nat) : Option (Unit × St) := bnd (ff_LE_at x (rf v0 3) ((gi x (rf v0 3) 3) - 1) 2) (fun r_1 x_2 => bnd (ff_LE_dropLast x_2 (rf v0 3)) (fun _ x_5 => bnd (ff_SH_renewGriefs x_5 v0 r_1) (fun _ x_8 => some ((), x_8))))
set_option maxHeartbeats 4000000 in
set_option maxRecDepth 100000 in
theorem ww_SH_dropFeast {p : Program} {l : Launch} {e : Env} {s : State} {m : MethodId} {args : Array Value} {below : List Frame} {meth : Method} {c : Code} {E : Ev} {A : Nat → Prop} {ad : Nat → Nat} {r : Unit} {x' : St} (C0 : Cx E A RSH bb_SH_dropFeast 2 (none) p s m args meth c) (hap : Ap ad ixC A)  {x : St} {v0 : Nat} (ho_v0 : isO ixC v0 4) (hf : ff_SH_dropFeast x v0 = some (r, x')) {H : Heap} {locs : List Loc} {ls : Array Slot} (hP : Wd E ad ixC x H) (hS : va_S A s.heap H locs) (hl : lv_has ls 2 [(0, .ref (ad v0))]) : W p l e rm_SH_dropFeast s m args below meth c H locs 0 0 (MQ below (QX E ad ixC A (none) x') args s 0 0 A) (F0 m 0 ls []) := by
  obtain ⟨hx, hb, hml, hr, hown, hts, hlk, hK⟩ := id C0
  have hf : bnd (ff_LE_at x (rf v0 3) ((gi x (rf v0 3) 3) - 1) 2) (fun r_1 x_2 => bnd (ff_LE_dropLast x_2 (rf v0 3)) (fun _ x_5 => bnd (ff_SH_renewGriefs x_5 v0 r_1) (fun _ x_8 => some ((), x_8)))) = some (r, x') := hf
  refine lv_aload_n hx hb dd_SH_dropFeast_0 rfl (lv_at hl 0 rfl) ?_
  refine gf_SH_26 C0 hP ho_v0 dd_SH_dropFeast_1 ?_
  refine lv_aload_n hx hb dd_SH_dropFeast_4 rfl (lv_at hl 0 rfl) ?_
  refine gf_SH_26 C0 hP ho_v0 dd_SH_dropFeast_5 ?_
  refine gf_SH_50 C0 hP (tp_4_3 ho_v0) dd_SH_dropFeast_8 ?_
  refine lv_iconst (v := 1) hx hb dd_SH_dropFeast_11 (by decide) ?_
  refine lv_isub hx hb dd_SH_dropFeast_12 ?_
  refine lv_iconst (v := 2) hx hb dd_SH_dropFeast_13 (by decide) ?_
  obtain ⟨r_1, x_2, c_3, hf⟩ := of_bnd hf
  refine cl_SH_78 C0 hap (tp_4_3 ho_v0) c_3 hP hS ⟨Nat.le_of_ble_eq_true rfl, Nat.le_of_ble_eq_true rfl⟩ hl.1 (Nat.le_of_ble_eq_true rfl) dd_SH_dropFeast_14 ⟨Nat.le_refl _, Nat.le_refl _⟩ (fun H locs hP hS => ?_)
  refine lv_istore_n (lv' := [(1, .int r_1), (0, .ref (ad v0))]) hx hb dd_SH_dropFeast_17 rfl hl (by decide) rfl (fun ls hl => ?_)
  refine lv_aload_n hx hb dd_SH_dropFeast_18 rfl (lv_at hl 1 rfl) ?_
  refine gf_SH_26 C0 hP ho_v0 dd_SH_dropFeast_19 ?_
  obtain ⟨_, x_5, c_6, hf⟩ := of_bnd hf
  refine cl_SH_82 C0 hap (tp_4_3 ho_v0) c_6 hP hS ⟨Nat.le_of_ble_eq_true rfl, Nat.le_of_ble_eq_true rfl⟩ hl.1 (Nat.le_of_ble_eq_true rfl) dd_SH_dropFeast_22 ⟨Nat.le_refl _, Nat.le_refl _⟩ (fun H locs hP hS => ?_)
  refine lv_aload_n hx hb dd_SH_dropFeast_25 rfl (lv_at hl 1 rfl) ?_
  refine lv_iload_n hx hb dd_SH_dropFeast_26 rfl (lv_at hl 0 rfl) ?_
  obtain ⟨_, x_8, c_9, hf⟩ := of_bnd hf
  refine cl_SH_74 C0 hap ho_v0 c_9 hP hS ⟨Nat.le_of_ble_eq_true rfl, Nat.le_of_ble_eq_true rfl⟩ hl.1 (Nat.le_of_ble_eq_true rfl) dd_SH_dropFeast_27 ⟨Nat.le_refl _, Nat.le_refl _⟩ (fun H locs hP hS => ?_)
  exact rrV C0 hP hS dd_SH_dropFeast_30 hf
theorem cc_SH_dropFeast {l : Launch} {E : Ev} {A : Nat → Prop} {ad : Nat → Nat} (hap : Ap ad ixC A) {x x' : St} {v0 : Nat} {r : Unit} (ho_v0 : isO ixC v0 4) (hf : ff_SH_dropFeast x v0 = some (r, x')) : Met l yy_SH_dropFeast (Cond.code yy_SH_dropFeast bb_SH_dropFeast 2 (none) :: gtb) rm_SH_dropFeast (va_Pc [.ref (ad v0)] (PB E A ad ixC x)) (QX E ad ixC A (none) x') 0 0 A := by
  exact enter (by decide) (Nat.le_of_ble_eq_true rfl) (fun p e s m below meth c ls C0 hP hS hl => ww_SH_dropFeast C0 hap ho_v0 hf hP hS hl)
abbrev rm_SH_renewAllGriefs : Room := { frames := 5, cells := 0, slots := 0, locals := 114 }
theorem dd_SH_renewAllGriefs_0 : decode bb_SH_renewAllGriefs 0 = .ok (.iconst 0, 1) := by decide +kernel
theorem dd_SH_renewAllGriefs_1 : decode bb_SH_renewAllGriefs 1 = .ok (.istore_n 1, 1) := by decide +kernel
theorem dd_SH_renewAllGriefs_2 : decode bb_SH_renewAllGriefs 2 = .ok (.iload_n 1, 1) := by decide +kernel
theorem dd_SH_renewAllGriefs_3 : decode bb_SH_renewAllGriefs 3 = .ok (.aload_n 0, 1) := by decide +kernel
theorem dd_SH_renewAllGriefs_4 : decode bb_SH_renewAllGriefs 4 = .ok (.getfield 14, 3) := by decide +kernel
theorem dd_SH_renewAllGriefs_7 : decode bb_SH_renewAllGriefs 7 = .ok (.getfield 50, 3) := by decide +kernel
theorem dd_SH_renewAllGriefs_10 : decode bb_SH_renewAllGriefs 10 = .ok (.if_icmp .ge 14, 3) := by decide +kernel
theorem dd_SH_renewAllGriefs_13 : decode bb_SH_renewAllGriefs 13 = .ok (.aload_n 0, 1) := by decide +kernel
theorem dd_SH_renewAllGriefs_14 : decode bb_SH_renewAllGriefs 14 = .ok (.iload_n 1, 1) := by decide +kernel
theorem dd_SH_renewAllGriefs_15 : decode bb_SH_renewAllGriefs 15 = .ok (.invokevirtual 74, 3) := by decide +kernel
theorem dd_SH_renewAllGriefs_18 : decode bb_SH_renewAllGriefs 18 = .ok (.iinc 1 1, 3) := by decide +kernel
theorem dd_SH_renewAllGriefs_21 : decode bb_SH_renewAllGriefs 21 = .ok (.goto (-19), 3) := by decide +kernel
theorem dd_SH_renewAllGriefs_24 : decode bb_SH_renewAllGriefs 24 = .ok (.return_, 1) := by decide +kernel
def ff_SH_renewAllGriefs_2  : Nat → St → Nat → Int32 → Option (Unit × St)
  | 0, _, _, _ => none
  | n + 1, x, v0, v1 => (if (gi x (rf v0 0) 3) ≤ v1 then some ((), x) else bnd (ff_SH_renewGriefs x v0 v1) (fun _ x_3 => ff_SH_renewAllGriefs_2 n x_3 v0 (v1 + 1)))
def ff_SH_renewAllGriefs  (x : St) (v0 : Nat) : Option (Unit × St) := ff_SH_renewAllGriefs_2 FU x v0 0
set_option maxHeartbeats 4000000 in
set_option maxRecDepth 100000 in
theorem ww_SH_renewAllGriefs_2 {p : Program} {l : Launch} {e : Env} {s : State} {m : MethodId} {args : Array Value} {below : List Frame} {meth : Method} {c : Code} {E : Ev} {A : Nat → Prop} {ad : Nat → Nat} {r : Unit} {x' : St} (C0 : Cx E A RSH bb_SH_renewAllGriefs 2 (none) p s m args meth c) (hap : Ap ad ixC A)  : ∀ (n : Nat), ∀ (x : St) (v0 : Nat) (v1 : Int32), (isO ixC v0 4) → ff_SH_renewAllGriefs_2 n x v0 v1 = some (r, x') → ∀ (H : Heap) (locs : List Loc) (ls : Array Slot), Wd E ad ixC x H → va_S A s.heap H locs → lv_has ls 2 [(0, .ref (ad v0)), (1, .int v1)] → W p l e rm_SH_renewAllGriefs s m args below meth c H locs 0 0 (MQ below (QX E ad ixC A (none) x') args s 0 0 A) (F0 m 2 ls []) := by
  obtain ⟨hx, hb, hml, hr, hown, hts, hlk, hK⟩ := id C0
  intro n
  induction n with
  | zero => intro x v0 v1 ho_v0 hf; exact of_no hf
  | succ n ih =>
    intro x v0 v1 ho_v0 hf H locs ls hP hS hl
    have hf : (if (gi x (rf v0 0) 3) ≤ v1 then some ((), x) else bnd (ff_SH_renewGriefs x v0 v1) (fun _ x_3 => ff_SH_renewAllGriefs_2 n x_3 v0 (v1 + 1))) = some (r, x') := hf
    refine lv_iload_n hx hb dd_SH_renewAllGriefs_2 rfl (lv_at hl 1 rfl) ?_
    refine lv_aload_n hx hb dd_SH_renewAllGriefs_3 rfl (lv_at hl 0 rfl) ?_
    refine gf_SH_14 C0 hP ho_v0 dd_SH_renewAllGriefs_4 ?_
    refine gf_SH_50 C0 hP (tp_4_0 ho_v0) dd_SH_renewAllGriefs_7 ?_
    refine lv_icmp_ge (tgt := 24) hx hb dd_SH_renewAllGriefs_10 (by decide) (fun h_1 => ?_) (fun h_1 => ?_)
    · have hf := (if_pos h_1).symm.trans hf
      exact rrV C0 hP hS dd_SH_renewAllGriefs_24 hf
    · have hf := (if_neg h_1).symm.trans hf
      refine lv_aload_n hx hb dd_SH_renewAllGriefs_13 rfl (lv_at hl 0 rfl) ?_
      refine lv_iload_n hx hb dd_SH_renewAllGriefs_14 rfl (lv_at hl 1 rfl) ?_
      obtain ⟨_, x_3, c_4, hf⟩ := of_bnd hf
      refine cl_SH_74 C0 hap ho_v0 c_4 hP hS ⟨Nat.le_of_ble_eq_true rfl, Nat.le_of_ble_eq_true rfl⟩ hl.1 (Nat.le_of_ble_eq_true rfl) dd_SH_renewAllGriefs_15 ⟨Nat.le_refl _, Nat.le_refl _⟩ (fun H locs hP hS => ?_)
      refine lv_iinc (v := v1 + 1) (lv' := [(1, .int (v1 + 1)), (0, .ref (ad v0))]) hx hb dd_SH_renewAllGriefs_18 hl (k := 1) rfl rfl (by decide) rfl (fun ls hl => ?_)
      refine lv_goto (tgt := 2) hx hb dd_SH_renewAllGriefs_21 (by decide) ?_
      exact ih x_3 v0 (v1 + 1) ho_v0 hf _ _ _ hP hS (lv_sub hl [1, 0] rfl)
set_option maxHeartbeats 4000000 in
set_option maxRecDepth 100000 in
theorem ww_SH_renewAllGriefs {p : Program} {l : Launch} {e : Env} {s : State} {m : MethodId} {args : Array Value} {below : List Frame} {meth : Method} {c : Code} {E : Ev} {A : Nat → Prop} {ad : Nat → Nat} {r : Unit} {x' : St} (C0 : Cx E A RSH bb_SH_renewAllGriefs 2 (none) p s m args meth c) (hap : Ap ad ixC A)  {x : St} {v0 : Nat} (ho_v0 : isO ixC v0 4) (hf : ff_SH_renewAllGriefs x v0 = some (r, x')) {H : Heap} {locs : List Loc} {ls : Array Slot} (hP : Wd E ad ixC x H) (hS : va_S A s.heap H locs) (hl : lv_has ls 2 [(0, .ref (ad v0))]) : W p l e rm_SH_renewAllGriefs s m args below meth c H locs 0 0 (MQ below (QX E ad ixC A (none) x') args s 0 0 A) (F0 m 0 ls []) := by
  obtain ⟨hx, hb, hml, hr, hown, hts, hlk, hK⟩ := id C0
  have hf : ff_SH_renewAllGriefs_2 FU x v0 0 = some (r, x') := hf
  refine lv_iconst (v := 0) hx hb dd_SH_renewAllGriefs_0 (by decide) ?_
  refine lv_istore_n (lv' := [(1, .int 0), (0, .ref (ad v0))]) hx hb dd_SH_renewAllGriefs_1 rfl hl (by decide) rfl (fun ls hl => ?_)
  exact ww_SH_renewAllGriefs_2 C0 hap  FU x v0 0 ho_v0 hf _ _ _ hP hS (lv_sub hl [1, 0] rfl)
theorem cc_SH_renewAllGriefs {l : Launch} {E : Ev} {A : Nat → Prop} {ad : Nat → Nat} (hap : Ap ad ixC A) {x x' : St} {v0 : Nat} {r : Unit} (ho_v0 : isO ixC v0 4) (hf : ff_SH_renewAllGriefs x v0 = some (r, x')) : Met l yy_SH_renewAllGriefs (Cond.code yy_SH_renewAllGriefs bb_SH_renewAllGriefs 2 (none) :: gtb) rm_SH_renewAllGriefs (va_Pc [.ref (ad v0)] (PB E A ad ixC x)) (QX E ad ixC A (none) x') 0 0 A := by
  exact enter (by decide) (Nat.le_of_ble_eq_true rfl) (fun p e s m below meth c ls C0 hP hS hl => ww_SH_renewAllGriefs C0 hap ho_v0 hf hP hS hl)
abbrev rm_SH_openJoints : Room := { frames := 3, cells := 0, slots := 0, locals := 71 }
theorem dd_SH_openJoints_0 : decode bb_SH_openJoints 0 = .ok (.iconst 0, 1) := by decide +kernel
theorem dd_SH_openJoints_1 : decode bb_SH_openJoints 1 = .ok (.istore_n 1, 1) := by decide +kernel
theorem dd_SH_openJoints_2 : decode bb_SH_openJoints 2 = .ok (.iconst 0, 1) := by decide +kernel
theorem dd_SH_openJoints_3 : decode bb_SH_openJoints 3 = .ok (.istore_n 2, 1) := by decide +kernel
theorem dd_SH_openJoints_4 : decode bb_SH_openJoints 4 = .ok (.iload_n 2, 1) := by decide +kernel
theorem dd_SH_openJoints_5 : decode bb_SH_openJoints 5 = .ok (.aload_n 0, 1) := by decide +kernel
theorem dd_SH_openJoints_6 : decode bb_SH_openJoints 6 = .ok (.getfield 20, 3) := by decide +kernel
theorem dd_SH_openJoints_9 : decode bb_SH_openJoints 9 = .ok (.getfield 50, 3) := by decide +kernel
theorem dd_SH_openJoints_12 : decode bb_SH_openJoints 12 = .ok (.if_icmp .ge 27, 3) := by decide +kernel
theorem dd_SH_openJoints_15 : decode bb_SH_openJoints 15 = .ok (.aload_n 0, 1) := by decide +kernel
theorem dd_SH_openJoints_16 : decode bb_SH_openJoints 16 = .ok (.iload_n 2, 1) := by decide +kernel
theorem dd_SH_openJoints_17 : decode bb_SH_openJoints 17 = .ok (.invokevirtual 131, 3) := by decide +kernel
theorem dd_SH_openJoints_20 : decode bb_SH_openJoints 20 = .ok (.aload_n 0, 1) := by decide +kernel
theorem dd_SH_openJoints_21 : decode bb_SH_openJoints 21 = .ok (.getfield 57, 3) := by decide +kernel
theorem dd_SH_openJoints_24 : decode bb_SH_openJoints 24 = .ok (.if_icmp .gt 9, 3) := by decide +kernel
theorem dd_SH_openJoints_27 : decode bb_SH_openJoints 27 = .ok (.iload_n 1, 1) := by decide +kernel
theorem dd_SH_openJoints_28 : decode bb_SH_openJoints 28 = .ok (.iconst 1, 1) := by decide +kernel
theorem dd_SH_openJoints_29 : decode bb_SH_openJoints 29 = .ok (.iload_n 2, 1) := by decide +kernel
theorem dd_SH_openJoints_30 : decode bb_SH_openJoints 30 = .ok (.ishl, 1) := by decide +kernel
theorem dd_SH_openJoints_31 : decode bb_SH_openJoints 31 = .ok (.ior, 1) := by decide +kernel
theorem dd_SH_openJoints_32 : decode bb_SH_openJoints 32 = .ok (.istore_n 1, 1) := by decide +kernel
theorem dd_SH_openJoints_33 : decode bb_SH_openJoints 33 = .ok (.iinc 2 1, 3) := by decide +kernel
theorem dd_SH_openJoints_36 : decode bb_SH_openJoints 36 = .ok (.goto (-32), 3) := by decide +kernel
theorem dd_SH_openJoints_39 : decode bb_SH_openJoints 39 = .ok (.iload_n 1, 1) := by decide +kernel
theorem dd_SH_openJoints_40 : decode bb_SH_openJoints 40 = .ok (.ireturn, 1) := by decide +kernel
def ff_SH_openJoints_4  : Nat → St → Nat → Int32 → Int32 → Option (Int32 × St)
  | 0, _, _, _, _ => none
  | n + 1, x, v0, v1, v2 => (if (gi x (rf v0 1) 3) ≤ v2 then some (v1, x) else bnd (ff_SH_openingOf x v0 v2) (fun r_2 x_3 => (if (gi x_3 v0 9) < r_2 then ff_SH_openJoints_4 n x_3 v0 v1 (v2 + 1) else li (v1 ||| (1 <<< (v2 &&& 31))) (fun u_6 => ff_SH_openJoints_4 n x_3 v0 u_6 (v2 + 1)))))
def ff_SH_openJoints  (x : St) (v0 : Nat) : Option (Int32 × St) := ff_SH_openJoints_4 FU x v0 0 0
set_option maxHeartbeats 4000000 in
set_option maxRecDepth 100000 in
theorem ww_SH_openJoints_4 {p : Program} {l : Launch} {e : Env} {s : State} {m : MethodId} {args : Array Value} {below : List Frame} {meth : Method} {c : Code} {E : Ev} {A : Nat → Prop} {ad : Nat → Nat} {r : Int32} {x' : St} (C0 : Cx E A RSH bb_SH_openJoints 3 (some .int) p s m args meth c) (hap : Ap ad ixC A)  : ∀ (n : Nat), ∀ (x : St) (v0 : Nat) (v1 : Int32) (v2 : Int32), (isO ixC v0 4) → ff_SH_openJoints_4 n x v0 v1 v2 = some (r, x') → ∀ (H : Heap) (locs : List Loc) (ls : Array Slot), Wd E ad ixC x H → va_S A s.heap H locs → lv_has ls 3 [(0, .ref (ad v0)), (1, .int v1), (2, .int v2)] → W p l e rm_SH_openJoints s m args below meth c H locs 0 0 (MQ below (QX E ad ixC A (some (.int r)) x') args s 0 0 A) (F0 m 4 ls []) := by
  obtain ⟨hx, hb, hml, hr, hown, hts, hlk, hK⟩ := id C0
  intro n
  induction n with
  | zero => intro x v0 v1 v2 ho_v0 hf; exact of_no hf
  | succ n ih =>
    intro x v0 v1 v2 ho_v0 hf H locs ls hP hS hl
    have hf : (if (gi x (rf v0 1) 3) ≤ v2 then some (v1, x) else bnd (ff_SH_openingOf x v0 v2) (fun r_2 x_3 => (if (gi x_3 v0 9) < r_2 then ff_SH_openJoints_4 n x_3 v0 v1 (v2 + 1) else li (v1 ||| (1 <<< (v2 &&& 31))) (fun u_6 => ff_SH_openJoints_4 n x_3 v0 u_6 (v2 + 1))))) = some (r, x') := hf
    refine lv_iload_n hx hb dd_SH_openJoints_4 rfl (lv_at hl 2 rfl) ?_
    refine lv_aload_n hx hb dd_SH_openJoints_5 rfl (lv_at hl 0 rfl) ?_
    refine gf_SH_20 C0 hP ho_v0 dd_SH_openJoints_6 ?_
    refine gf_SH_50 C0 hP (tp_4_1 ho_v0) dd_SH_openJoints_9 ?_
    refine lv_icmp_ge (tgt := 39) hx hb dd_SH_openJoints_12 (by decide) (fun h_1 => ?_) (fun h_1 => ?_)
    · have hf := (if_pos h_1).symm.trans hf
      refine lv_iload_n hx hb dd_SH_openJoints_39 rfl (lv_at hl 1 rfl) ?_
      exact rrI C0 hP hS dd_SH_openJoints_40 hf
    · have hf := (if_neg h_1).symm.trans hf
      refine lv_aload_n hx hb dd_SH_openJoints_15 rfl (lv_at hl 0 rfl) ?_
      refine lv_iload_n hx hb dd_SH_openJoints_16 rfl (lv_at hl 2 rfl) ?_
      obtain ⟨r_2, x_3, c_4, hf⟩ := of_bnd hf
      refine cl_SH_131 C0 hap ho_v0 c_4 hP hS ⟨Nat.le_of_ble_eq_true rfl, Nat.le_of_ble_eq_true rfl⟩ hl.1 (Nat.le_of_ble_eq_true rfl) dd_SH_openJoints_17 ⟨Nat.le_refl _, Nat.le_refl _⟩ (fun H locs hP hS => ?_)
      refine lv_aload_n hx hb dd_SH_openJoints_20 rfl (lv_at hl 0 rfl) ?_
      refine gf_SH_57 C0 hP ho_v0 dd_SH_openJoints_21 ?_
      refine lv_icmp_gt (tgt := 33) hx hb dd_SH_openJoints_24 (by decide) (fun h_5 => ?_) (fun h_5 => ?_)
      · have hf := (if_pos h_5).symm.trans hf
        refine lv_iinc (v := v2 + 1) (lv' := [(2, .int (v2 + 1)), (0, .ref (ad v0)), (1, .int v1)]) hx hb dd_SH_openJoints_33 hl (k := 2) rfl rfl (by decide) rfl (fun ls hl => ?_)
        refine lv_goto (tgt := 4) hx hb dd_SH_openJoints_36 (by decide) ?_
        exact ih x_3 v0 v1 (v2 + 1) ho_v0 hf _ _ _ hP hS (lv_sub hl [1, 2, 0] rfl)
      · have hf := (if_neg h_5).symm.trans hf
        refine lv_iload_n hx hb dd_SH_openJoints_27 rfl (lv_at hl 1 rfl) ?_
        refine lv_iconst (v := 1) hx hb dd_SH_openJoints_28 (by decide) ?_
        refine lv_iload_n hx hb dd_SH_openJoints_29 rfl (lv_at hl 2 rfl) ?_
        refine lv_ishl hx hb dd_SH_openJoints_30 ?_
        refine lv_ior hx hb dd_SH_openJoints_31 ?_
        obtain ⟨u_6, eu_6, hf⟩ := of_li hf
        refine tpi eu_6 ?_
        refine lv_istore_n (lv' := [(1, .int u_6), (0, .ref (ad v0)), (2, .int v2)]) hx hb dd_SH_openJoints_32 rfl hl (by decide) rfl (fun ls hl => ?_)
        refine lv_iinc (v := v2 + 1) (lv' := [(2, .int (v2 + 1)), (1, .int u_6), (0, .ref (ad v0))]) hx hb dd_SH_openJoints_33 hl (k := 2) rfl rfl (by decide) rfl (fun ls hl => ?_)
        refine lv_goto (tgt := 4) hx hb dd_SH_openJoints_36 (by decide) ?_
        exact ih x_3 v0 u_6 (v2 + 1) ho_v0 hf _ _ _ hP hS (lv_sub hl [2, 1, 0] rfl)
set_option maxHeartbeats 4000000 in
set_option maxRecDepth 100000 in
theorem ww_SH_openJoints {p : Program} {l : Launch} {e : Env} {s : State} {m : MethodId} {args : Array Value} {below : List Frame} {meth : Method} {c : Code} {E : Ev} {A : Nat → Prop} {ad : Nat → Nat} {r : Int32} {x' : St} (C0 : Cx E A RSH bb_SH_openJoints 3 (some .int) p s m args meth c) (hap : Ap ad ixC A)  {x : St} {v0 : Nat} (ho_v0 : isO ixC v0 4) (hf : ff_SH_openJoints x v0 = some (r, x')) {H : Heap} {locs : List Loc} {ls : Array Slot} (hP : Wd E ad ixC x H) (hS : va_S A s.heap H locs) (hl : lv_has ls 3 [(0, .ref (ad v0))]) : W p l e rm_SH_openJoints s m args below meth c H locs 0 0 (MQ below (QX E ad ixC A (some (.int r)) x') args s 0 0 A) (F0 m 0 ls []) := by
  obtain ⟨hx, hb, hml, hr, hown, hts, hlk, hK⟩ := id C0
  have hf : ff_SH_openJoints_4 FU x v0 0 0 = some (r, x') := hf
  refine lv_iconst (v := 0) hx hb dd_SH_openJoints_0 (by decide) ?_
  refine lv_istore_n (lv' := [(1, .int 0), (0, .ref (ad v0))]) hx hb dd_SH_openJoints_1 rfl hl (by decide) rfl (fun ls hl => ?_)
  refine lv_iconst (v := 0) hx hb dd_SH_openJoints_2 (by decide) ?_
  refine lv_istore_n (lv' := [(2, .int 0), (1, .int 0), (0, .ref (ad v0))]) hx hb dd_SH_openJoints_3 rfl hl (by decide) rfl (fun ls hl => ?_)
  exact ww_SH_openJoints_4 C0 hap  FU x v0 0 0 ho_v0 hf _ _ _ hP hS (lv_sub hl [2, 1, 0] rfl)
theorem cc_SH_openJoints {l : Launch} {E : Ev} {A : Nat → Prop} {ad : Nat → Nat} (hap : Ap ad ixC A) {x x' : St} {v0 : Nat} {r : Int32} (ho_v0 : isO ixC v0 4) (hf : ff_SH_openJoints x v0 = some (r, x')) : Met l yy_SH_openJoints (Cond.code yy_SH_openJoints bb_SH_openJoints 3 (some .int) :: gtb) rm_SH_openJoints (va_Pc [.ref (ad v0)] (PB E A ad ixC x)) (QX E ad ixC A (some (.int r)) x') 0 0 A := by
  exact enter (by decide) (Nat.le_of_ble_eq_true rfl) (fun p e s m below meth c ls C0 hP hS hl => ww_SH_openJoints C0 hap ho_v0 hf hP hS hl)
abbrev rm_SH_keepPast : Room := { frames := 1, cells := 0, slots := 0, locals := 26 }
theorem dd_SH_keepPast_0 : decode bb_SH_keepPast 0 = .ok (.aload_n 0, 1) := by decide +kernel
theorem dd_SH_keepPast_1 : decode bb_SH_keepPast 1 = .ok (.getfield 54, 3) := by decide +kernel
theorem dd_SH_keepPast_4 : decode bb_SH_keepPast 4 = .ok (.bipush 10, 2) := by decide +kernel
theorem dd_SH_keepPast_6 : decode bb_SH_keepPast 6 = .ok (.if_icmp .lt 26, 3) := by decide +kernel
theorem dd_SH_keepPast_9 : decode bb_SH_keepPast 9 = .ok (.aload_n 0, 1) := by decide +kernel
theorem dd_SH_keepPast_10 : decode bb_SH_keepPast 10 = .ok (.getfield 41, 3) := by decide +kernel
theorem dd_SH_keepPast_13 : decode bb_SH_keepPast 13 = .ok (.bipush 19, 2) := by decide +kernel
theorem dd_SH_keepPast_15 : decode bb_SH_keepPast 15 = .ok (.aload_n 0, 1) := by decide +kernel
theorem dd_SH_keepPast_16 : decode bb_SH_keepPast 16 = .ok (.getfield 41, 3) := by decide +kernel
theorem dd_SH_keepPast_19 : decode bb_SH_keepPast 19 = .ok (.iconst 0, 1) := by decide +kernel
theorem dd_SH_keepPast_20 : decode bb_SH_keepPast 20 = .ok (.sipush 171, 3) := by decide +kernel
theorem dd_SH_keepPast_23 : decode bb_SH_keepPast 23 = .ok (.invokestatic 64, 3) := by decide +kernel
theorem dd_SH_keepPast_26 : decode bb_SH_keepPast 26 = .ok (.aload_n 0, 1) := by decide +kernel
theorem dd_SH_keepPast_27 : decode bb_SH_keepPast 27 = .ok (.bipush 9, 2) := by decide +kernel
theorem dd_SH_keepPast_29 : decode bb_SH_keepPast 29 = .ok (.putfield 54, 3) := by decide +kernel
theorem dd_SH_keepPast_32 : decode bb_SH_keepPast 32 = .ok (.aload_n 0, 1) := by decide +kernel
theorem dd_SH_keepPast_33 : decode bb_SH_keepPast 33 = .ok (.getfield 41, 3) := by decide +kernel
theorem dd_SH_keepPast_36 : decode bb_SH_keepPast 36 = .ok (.aload_n 0, 1) := by decide +kernel
theorem dd_SH_keepPast_37 : decode bb_SH_keepPast 37 = .ok (.getfield 54, 3) := by decide +kernel
theorem dd_SH_keepPast_40 : decode bb_SH_keepPast 40 = .ok (.bipush 19, 2) := by decide +kernel
theorem dd_SH_keepPast_42 : decode bb_SH_keepPast 42 = .ok (.imul, 1) := by decide +kernel
theorem dd_SH_keepPast_43 : decode bb_SH_keepPast 43 = .ok (.aload_n 0, 1) := by decide +kernel
theorem dd_SH_keepPast_44 : decode bb_SH_keepPast 44 = .ok (.getfield 57, 3) := by decide +kernel
theorem dd_SH_keepPast_47 : decode bb_SH_keepPast 47 = .ok (.iastore, 1) := by decide +kernel
theorem dd_SH_keepPast_48 : decode bb_SH_keepPast 48 = .ok (.aload_n 0, 1) := by decide +kernel
theorem dd_SH_keepPast_49 : decode bb_SH_keepPast 49 = .ok (.getfield 37, 3) := by decide +kernel
theorem dd_SH_keepPast_52 : decode bb_SH_keepPast 52 = .ok (.iconst 0, 1) := by decide +kernel
theorem dd_SH_keepPast_53 : decode bb_SH_keepPast 53 = .ok (.aload_n 0, 1) := by decide +kernel
theorem dd_SH_keepPast_54 : decode bb_SH_keepPast 54 = .ok (.getfield 41, 3) := by decide +kernel
theorem dd_SH_keepPast_57 : decode bb_SH_keepPast 57 = .ok (.aload_n 0, 1) := by decide +kernel
theorem dd_SH_keepPast_58 : decode bb_SH_keepPast 58 = .ok (.getfield 54, 3) := by decide +kernel
theorem dd_SH_keepPast_61 : decode bb_SH_keepPast 61 = .ok (.bipush 19, 2) := by decide +kernel
theorem dd_SH_keepPast_63 : decode bb_SH_keepPast 63 = .ok (.imul, 1) := by decide +kernel
theorem dd_SH_keepPast_64 : decode bb_SH_keepPast 64 = .ok (.iconst 1, 1) := by decide +kernel
theorem dd_SH_keepPast_65 : decode bb_SH_keepPast 65 = .ok (.iadd, 1) := by decide +kernel
theorem dd_SH_keepPast_66 : decode bb_SH_keepPast 66 = .ok (.bipush 18, 2) := by decide +kernel
theorem dd_SH_keepPast_68 : decode bb_SH_keepPast 68 = .ok (.invokestatic 64, 3) := by decide +kernel
theorem dd_SH_keepPast_71 : decode bb_SH_keepPast 71 = .ok (.aload_n 0, 1) := by decide +kernel
theorem dd_SH_keepPast_72 : decode bb_SH_keepPast 72 = .ok (.dup, 1) := by decide +kernel
theorem dd_SH_keepPast_73 : decode bb_SH_keepPast 73 = .ok (.getfield 54, 3) := by decide +kernel
theorem dd_SH_keepPast_76 : decode bb_SH_keepPast 76 = .ok (.iconst 1, 1) := by decide +kernel
theorem dd_SH_keepPast_77 : decode bb_SH_keepPast 77 = .ok (.iadd, 1) := by decide +kernel
theorem dd_SH_keepPast_78 : decode bb_SH_keepPast 78 = .ok (.putfield 54, 3) := by decide +kernel
theorem dd_SH_keepPast_81 : decode bb_SH_keepPast 81 = .ok (.return_, 1) := by decide +kernel
def ff_SH_keepPast_32  (x : St) (v0 : Nat) : Option (Unit × St) := (if ixb ((gi x v0 8) * 19) (ln (rf v0 7)) = true then st (si x (rf v0 7) (ix ((gi x v0 8) * 19)) (gi x v0 9)) (fun x_3 => (if spb 0 18 (ln (rf v0 6)) = true then (if spb (((gi x_3 v0 8) * 19) + 1) 18 (ln (rf v0 7)) = true then st (cpi x_3 (rf v0 6) (ix 0) (rf v0 7) (ix (((gi x_3 v0 8) * 19) + 1)) (ix 18)) (fun x_6 => st (si x_6 v0 8 ((gi x_6 v0 8) + 1)) (fun x_7 => some ((), x_7))) else none) else none)) else none)
def ff_SH_keepPast  (x : St) (v0 : Nat) : Option (Unit × St) := (if (gi x v0 8) < 10 then ff_SH_keepPast_32 x v0 else (if spb 19 171 (ln (rf v0 7)) = true then (if spb 0 171 (ln (rf v0 7)) = true then st (cpi x (rf v0 7) (ix 19) (rf v0 7) (ix 0) (ix 171)) (fun x_10 => st (si x_10 v0 8 9) (fun x_11 => ff_SH_keepPast_32 x_11 v0)) else none) else none))
set_option maxHeartbeats 4000000 in
set_option maxRecDepth 100000 in
theorem ww_SH_keepPast_32 {p : Program} {l : Launch} {e : Env} {s : State} {m : MethodId} {args : Array Value} {below : List Frame} {meth : Method} {c : Code} {E : Ev} {A : Nat → Prop} {ad : Nat → Nat} {r : Unit} {x' : St} (C0 : Cx E A RSH bb_SH_keepPast 1 (none) p s m args meth c) (hap : Ap ad ixC A)  {x : St} {v0 : Nat} (ho_v0 : isO ixC v0 4) (hf : ff_SH_keepPast_32 x v0 = some (r, x')) {H : Heap} {locs : List Loc} {ls : Array Slot} (hP : Wd E ad ixC x H) (hS : va_S A s.heap H locs) (hl : lv_has ls 1 [(0, .ref (ad v0))]) : W p l e rm_SH_keepPast s m args below meth c H locs 0 0 (MQ below (QX E ad ixC A (none) x') args s 0 0 A) (F0 m 32 ls []) := by
  obtain ⟨hx, hb, hml, hr, hown, hts, hlk, hK⟩ := id C0
  have hf : (if ixb ((gi x v0 8) * 19) (ln (rf v0 7)) = true then st (si x (rf v0 7) (ix ((gi x v0 8) * 19)) (gi x v0 9)) (fun x_3 => (if spb 0 18 (ln (rf v0 6)) = true then (if spb (((gi x_3 v0 8) * 19) + 1) 18 (ln (rf v0 7)) = true then st (cpi x_3 (rf v0 6) (ix 0) (rf v0 7) (ix (((gi x_3 v0 8) * 19) + 1)) (ix 18)) (fun x_6 => st (si x_6 v0 8 ((gi x_6 v0 8) + 1)) (fun x_7 => some ((), x_7))) else none) else none)) else none) = some (r, x') := hf
  refine lv_aload_n hx hb dd_SH_keepPast_32 rfl (lv_at hl 0 rfl) ?_
  refine gf_SH_41 C0 hP ho_v0 dd_SH_keepPast_33 ?_
  refine lv_aload_n hx hb dd_SH_keepPast_36 rfl (lv_at hl 0 rfl) ?_
  refine gf_SH_54 C0 hP ho_v0 dd_SH_keepPast_37 ?_
  refine lv_bipush (v := 19) hx hb dd_SH_keepPast_40 (by decide) ?_
  refine lv_imul hx hb dd_SH_keepPast_42 ?_
  refine lv_aload_n hx hb dd_SH_keepPast_43 rfl (lv_at hl 0 rfl) ?_
  refine gf_SH_57 C0 hP ho_v0 dd_SH_keepPast_44 ?_
  obtain ⟨h_2, hf⟩ := of_ifb hf
  obtain ⟨x_3, hx_3, hf⟩ := of_st hf
  refine sI C0 hap hP hS (tp_4_7 ho_v0) h_2 hx_3 dd_SH_keepPast_47 (fun H locs hP hS => ?_)
  refine lv_aload_n hx hb dd_SH_keepPast_48 rfl (lv_at hl 0 rfl) ?_
  refine gf_SH_37 C0 hP ho_v0 dd_SH_keepPast_49 ?_
  refine lv_iconst (v := 0) hx hb dd_SH_keepPast_52 (by decide) ?_
  refine lv_aload_n hx hb dd_SH_keepPast_53 rfl (lv_at hl 0 rfl) ?_
  refine gf_SH_41 C0 hP ho_v0 dd_SH_keepPast_54 ?_
  refine lv_aload_n hx hb dd_SH_keepPast_57 rfl (lv_at hl 0 rfl) ?_
  refine gf_SH_54 C0 hP ho_v0 dd_SH_keepPast_58 ?_
  refine lv_bipush (v := 19) hx hb dd_SH_keepPast_61 (by decide) ?_
  refine lv_imul hx hb dd_SH_keepPast_63 ?_
  refine lv_iconst (v := 1) hx hb dd_SH_keepPast_64 (by decide) ?_
  refine lv_iadd hx hb dd_SH_keepPast_65 ?_
  refine lv_bipush (v := 18) hx hb dd_SH_keepPast_66 (by decide) ?_
  obtain ⟨h_4, hf⟩ := of_ifb hf
  obtain ⟨h_5, hf⟩ := of_ifb hf
  obtain ⟨x_6, hx_6, hf⟩ := of_st hf
  refine cpI C0 hap hP hS (tp_4_6 ho_v0) (tp_4_7 ho_v0) h_4 h_5 hx_6 hl.1 gw_m_SH_64 (Nat.le_of_ble_eq_true rfl) ⟨Nat.le_of_ble_eq_true rfl, Nat.le_of_ble_eq_true rfl⟩ dd_SH_keepPast_68 (fun H locs hP hS => ?_)
  refine lv_aload_n hx hb dd_SH_keepPast_71 rfl (lv_at hl 0 rfl) ?_
  refine lv_dup hx hb dd_SH_keepPast_72 rfl ?_
  refine gf_SH_54 C0 hP ho_v0 dd_SH_keepPast_73 ?_
  refine lv_iconst (v := 1) hx hb dd_SH_keepPast_76 (by decide) ?_
  refine lv_iadd hx hb dd_SH_keepPast_77 ?_
  obtain ⟨x_7, hx_7, hf⟩ := of_st hf
  refine pf_SH_54 C0 hap hP hS ho_v0 hx_7 dd_SH_keepPast_78 (fun H locs hP hS => ?_)
  exact rrV C0 hP hS dd_SH_keepPast_81 hf
set_option maxHeartbeats 4000000 in
set_option maxRecDepth 100000 in
theorem ww_SH_keepPast {p : Program} {l : Launch} {e : Env} {s : State} {m : MethodId} {args : Array Value} {below : List Frame} {meth : Method} {c : Code} {E : Ev} {A : Nat → Prop} {ad : Nat → Nat} {r : Unit} {x' : St} (C0 : Cx E A RSH bb_SH_keepPast 1 (none) p s m args meth c) (hap : Ap ad ixC A)  {x : St} {v0 : Nat} (ho_v0 : isO ixC v0 4) (hf : ff_SH_keepPast x v0 = some (r, x')) {H : Heap} {locs : List Loc} {ls : Array Slot} (hP : Wd E ad ixC x H) (hS : va_S A s.heap H locs) (hl : lv_has ls 1 [(0, .ref (ad v0))]) : W p l e rm_SH_keepPast s m args below meth c H locs 0 0 (MQ below (QX E ad ixC A (none) x') args s 0 0 A) (F0 m 0 ls []) := by
  obtain ⟨hx, hb, hml, hr, hown, hts, hlk, hK⟩ := id C0
  have hf : (if (gi x v0 8) < 10 then ff_SH_keepPast_32 x v0 else (if spb 19 171 (ln (rf v0 7)) = true then (if spb 0 171 (ln (rf v0 7)) = true then st (cpi x (rf v0 7) (ix 19) (rf v0 7) (ix 0) (ix 171)) (fun x_10 => st (si x_10 v0 8 9) (fun x_11 => ff_SH_keepPast_32 x_11 v0)) else none) else none)) = some (r, x') := hf
  refine lv_aload_n hx hb dd_SH_keepPast_0 rfl (lv_at hl 0 rfl) ?_
  refine gf_SH_54 C0 hP ho_v0 dd_SH_keepPast_1 ?_
  refine lv_bipush (v := 10) hx hb dd_SH_keepPast_4 (by decide) ?_
  refine lv_icmp_lt (tgt := 32) hx hb dd_SH_keepPast_6 (by decide) (fun h_1 => ?_) (fun h_1 => ?_)
  · have hf := (if_pos h_1).symm.trans hf
    exact ww_SH_keepPast_32 C0 hap  ho_v0 hf hP hS (lv_sub hl [0] rfl)
  · have hf := (if_neg h_1).symm.trans hf
    refine lv_aload_n hx hb dd_SH_keepPast_9 rfl (lv_at hl 0 rfl) ?_
    refine gf_SH_41 C0 hP ho_v0 dd_SH_keepPast_10 ?_
    refine lv_bipush (v := 19) hx hb dd_SH_keepPast_13 (by decide) ?_
    refine lv_aload_n hx hb dd_SH_keepPast_15 rfl (lv_at hl 0 rfl) ?_
    refine gf_SH_41 C0 hP ho_v0 dd_SH_keepPast_16 ?_
    refine lv_iconst (v := 0) hx hb dd_SH_keepPast_19 (by decide) ?_
    refine lv_sipush (v := 171) hx hb dd_SH_keepPast_20 (by decide) ?_
    obtain ⟨h_8, hf⟩ := of_ifb hf
    obtain ⟨h_9, hf⟩ := of_ifb hf
    obtain ⟨x_10, hx_10, hf⟩ := of_st hf
    refine cpI C0 hap hP hS (tp_4_7 ho_v0) (tp_4_7 ho_v0) h_8 h_9 hx_10 hl.1 gw_m_SH_64 (Nat.le_of_ble_eq_true rfl) ⟨Nat.le_of_ble_eq_true rfl, Nat.le_of_ble_eq_true rfl⟩ dd_SH_keepPast_23 (fun H locs hP hS => ?_)
    refine lv_aload_n hx hb dd_SH_keepPast_26 rfl (lv_at hl 0 rfl) ?_
    refine lv_bipush (v := 9) hx hb dd_SH_keepPast_27 (by decide) ?_
    obtain ⟨x_11, hx_11, hf⟩ := of_st hf
    refine pf_SH_54 C0 hap hP hS ho_v0 hx_11 dd_SH_keepPast_29 (fun H locs hP hS => ?_)
    exact ww_SH_keepPast_32 C0 hap  ho_v0 hf hP hS (lv_sub hl [0] rfl)
theorem cc_SH_keepPast {l : Launch} {E : Ev} {A : Nat → Prop} {ad : Nat → Nat} (hap : Ap ad ixC A) {x x' : St} {v0 : Nat} {r : Unit} (ho_v0 : isO ixC v0 4) (hf : ff_SH_keepPast x v0 = some (r, x')) : Met l yy_SH_keepPast (Cond.code yy_SH_keepPast bb_SH_keepPast 1 (none) :: gtb) rm_SH_keepPast (va_Pc [.ref (ad v0)] (PB E A ad ixC x)) (QX E ad ixC A (none) x') 0 0 A := by
  exact enter (by decide) (Nat.le_of_ble_eq_true rfl) (fun p e s m below meth c ls C0 hP hS hl => ww_SH_keepPast C0 hap ho_v0 hf hP hS hl)
abbrev rm_SH_goBack : Room := { frames := 1, cells := 0, slots := 0, locals := 26 }
theorem dd_SH_goBack_0 : decode bb_SH_goBack 0 = .ok (.aload_n 0, 1) := by decide +kernel
theorem dd_SH_goBack_1 : decode bb_SH_goBack 1 = .ok (.getfield 54, 3) := by decide +kernel
theorem dd_SH_goBack_4 : decode bb_SH_goBack 4 = .ok (.ifCond .le 52, 3) := by decide +kernel
theorem dd_SH_goBack_7 : decode bb_SH_goBack 7 = .ok (.aload_n 0, 1) := by decide +kernel
theorem dd_SH_goBack_8 : decode bb_SH_goBack 8 = .ok (.dup, 1) := by decide +kernel
theorem dd_SH_goBack_9 : decode bb_SH_goBack 9 = .ok (.getfield 54, 3) := by decide +kernel
theorem dd_SH_goBack_12 : decode bb_SH_goBack 12 = .ok (.iconst 1, 1) := by decide +kernel
theorem dd_SH_goBack_13 : decode bb_SH_goBack 13 = .ok (.isub, 1) := by decide +kernel
theorem dd_SH_goBack_14 : decode bb_SH_goBack 14 = .ok (.putfield 54, 3) := by decide +kernel
theorem dd_SH_goBack_17 : decode bb_SH_goBack 17 = .ok (.aload_n 0, 1) := by decide +kernel
theorem dd_SH_goBack_18 : decode bb_SH_goBack 18 = .ok (.aload_n 0, 1) := by decide +kernel
theorem dd_SH_goBack_19 : decode bb_SH_goBack 19 = .ok (.getfield 41, 3) := by decide +kernel
theorem dd_SH_goBack_22 : decode bb_SH_goBack 22 = .ok (.aload_n 0, 1) := by decide +kernel
theorem dd_SH_goBack_23 : decode bb_SH_goBack 23 = .ok (.getfield 54, 3) := by decide +kernel
theorem dd_SH_goBack_26 : decode bb_SH_goBack 26 = .ok (.bipush 19, 2) := by decide +kernel
theorem dd_SH_goBack_28 : decode bb_SH_goBack 28 = .ok (.imul, 1) := by decide +kernel
theorem dd_SH_goBack_29 : decode bb_SH_goBack 29 = .ok (.iaload, 1) := by decide +kernel
theorem dd_SH_goBack_30 : decode bb_SH_goBack 30 = .ok (.putfield 57, 3) := by decide +kernel
theorem dd_SH_goBack_33 : decode bb_SH_goBack 33 = .ok (.aload_n 0, 1) := by decide +kernel
theorem dd_SH_goBack_34 : decode bb_SH_goBack 34 = .ok (.getfield 41, 3) := by decide +kernel
theorem dd_SH_goBack_37 : decode bb_SH_goBack 37 = .ok (.aload_n 0, 1) := by decide +kernel
theorem dd_SH_goBack_38 : decode bb_SH_goBack 38 = .ok (.getfield 54, 3) := by decide +kernel
theorem dd_SH_goBack_41 : decode bb_SH_goBack 41 = .ok (.bipush 19, 2) := by decide +kernel
theorem dd_SH_goBack_43 : decode bb_SH_goBack 43 = .ok (.imul, 1) := by decide +kernel
theorem dd_SH_goBack_44 : decode bb_SH_goBack 44 = .ok (.iconst 1, 1) := by decide +kernel
theorem dd_SH_goBack_45 : decode bb_SH_goBack 45 = .ok (.iadd, 1) := by decide +kernel
theorem dd_SH_goBack_46 : decode bb_SH_goBack 46 = .ok (.aload_n 0, 1) := by decide +kernel
theorem dd_SH_goBack_47 : decode bb_SH_goBack 47 = .ok (.getfield 37, 3) := by decide +kernel
theorem dd_SH_goBack_50 : decode bb_SH_goBack 50 = .ok (.iconst 0, 1) := by decide +kernel
theorem dd_SH_goBack_51 : decode bb_SH_goBack 51 = .ok (.bipush 18, 2) := by decide +kernel
theorem dd_SH_goBack_53 : decode bb_SH_goBack 53 = .ok (.invokestatic 64, 3) := by decide +kernel
theorem dd_SH_goBack_56 : decode bb_SH_goBack 56 = .ok (.return_, 1) := by decide +kernel
def ff_SH_goBack  (x : St) (v0 : Nat) : Option (Unit × St) := (if (gi x v0 8) ≤ 0 then some ((), x) else st (si x v0 8 ((gi x v0 8) - 1)) (fun x_2 => (if ixb ((gi x_2 v0 8) * 19) (ln (rf v0 7)) = true then st (si x_2 v0 9 (gi x_2 (rf v0 7) (ix ((gi x_2 v0 8) * 19)))) (fun x_4 => (if spb (((gi x_4 v0 8) * 19) + 1) 18 (ln (rf v0 7)) = true then (if spb 0 18 (ln (rf v0 6)) = true then st (cpi x_4 (rf v0 7) (ix (((gi x_4 v0 8) * 19) + 1)) (rf v0 6) (ix 0) (ix 18)) (fun x_7 => some ((), x_7)) else none) else none)) else none)))
set_option maxHeartbeats 4000000 in
set_option maxRecDepth 100000 in
theorem ww_SH_goBack {p : Program} {l : Launch} {e : Env} {s : State} {m : MethodId} {args : Array Value} {below : List Frame} {meth : Method} {c : Code} {E : Ev} {A : Nat → Prop} {ad : Nat → Nat} {r : Unit} {x' : St} (C0 : Cx E A RSH bb_SH_goBack 1 (none) p s m args meth c) (hap : Ap ad ixC A)  {x : St} {v0 : Nat} (ho_v0 : isO ixC v0 4) (hf : ff_SH_goBack x v0 = some (r, x')) {H : Heap} {locs : List Loc} {ls : Array Slot} (hP : Wd E ad ixC x H) (hS : va_S A s.heap H locs) (hl : lv_has ls 1 [(0, .ref (ad v0))]) : W p l e rm_SH_goBack s m args below meth c H locs 0 0 (MQ below (QX E ad ixC A (none) x') args s 0 0 A) (F0 m 0 ls []) := by
  obtain ⟨hx, hb, hml, hr, hown, hts, hlk, hK⟩ := id C0
  have hf : (if (gi x v0 8) ≤ 0 then some ((), x) else st (si x v0 8 ((gi x v0 8) - 1)) (fun x_2 => (if ixb ((gi x_2 v0 8) * 19) (ln (rf v0 7)) = true then st (si x_2 v0 9 (gi x_2 (rf v0 7) (ix ((gi x_2 v0 8) * 19)))) (fun x_4 => (if spb (((gi x_4 v0 8) * 19) + 1) 18 (ln (rf v0 7)) = true then (if spb 0 18 (ln (rf v0 6)) = true then st (cpi x_4 (rf v0 7) (ix (((gi x_4 v0 8) * 19) + 1)) (rf v0 6) (ix 0) (ix 18)) (fun x_7 => some ((), x_7)) else none) else none)) else none))) = some (r, x') := hf
  refine lv_aload_n hx hb dd_SH_goBack_0 rfl (lv_at hl 0 rfl) ?_
  refine gf_SH_54 C0 hP ho_v0 dd_SH_goBack_1 ?_
  refine lv_if_le (tgt := 56) hx hb dd_SH_goBack_4 (by decide) (fun h_1 => ?_) (fun h_1 => ?_)
  · have hf := (if_pos h_1).symm.trans hf
    exact rrV C0 hP hS dd_SH_goBack_56 hf
  · have hf := (if_neg h_1).symm.trans hf
    refine lv_aload_n hx hb dd_SH_goBack_7 rfl (lv_at hl 0 rfl) ?_
    refine lv_dup hx hb dd_SH_goBack_8 rfl ?_
    refine gf_SH_54 C0 hP ho_v0 dd_SH_goBack_9 ?_
    refine lv_iconst (v := 1) hx hb dd_SH_goBack_12 (by decide) ?_
    refine lv_isub hx hb dd_SH_goBack_13 ?_
    obtain ⟨x_2, hx_2, hf⟩ := of_st hf
    refine pf_SH_54 C0 hap hP hS ho_v0 hx_2 dd_SH_goBack_14 (fun H locs hP hS => ?_)
    refine lv_aload_n hx hb dd_SH_goBack_17 rfl (lv_at hl 0 rfl) ?_
    refine lv_aload_n hx hb dd_SH_goBack_18 rfl (lv_at hl 0 rfl) ?_
    refine gf_SH_41 C0 hP ho_v0 dd_SH_goBack_19 ?_
    refine lv_aload_n hx hb dd_SH_goBack_22 rfl (lv_at hl 0 rfl) ?_
    refine gf_SH_54 C0 hP ho_v0 dd_SH_goBack_23 ?_
    refine lv_bipush (v := 19) hx hb dd_SH_goBack_26 (by decide) ?_
    refine lv_imul hx hb dd_SH_goBack_28 ?_
    obtain ⟨h_3, hf⟩ := of_ifb hf
    refine raI C0 hP (tp_4_7 ho_v0) h_3 dd_SH_goBack_29 ?_
    obtain ⟨x_4, hx_4, hf⟩ := of_st hf
    refine pf_SH_57 C0 hap hP hS ho_v0 hx_4 dd_SH_goBack_30 (fun H locs hP hS => ?_)
    refine lv_aload_n hx hb dd_SH_goBack_33 rfl (lv_at hl 0 rfl) ?_
    refine gf_SH_41 C0 hP ho_v0 dd_SH_goBack_34 ?_
    refine lv_aload_n hx hb dd_SH_goBack_37 rfl (lv_at hl 0 rfl) ?_
    refine gf_SH_54 C0 hP ho_v0 dd_SH_goBack_38 ?_
    refine lv_bipush (v := 19) hx hb dd_SH_goBack_41 (by decide) ?_
    refine lv_imul hx hb dd_SH_goBack_43 ?_
    refine lv_iconst (v := 1) hx hb dd_SH_goBack_44 (by decide) ?_
    refine lv_iadd hx hb dd_SH_goBack_45 ?_
    refine lv_aload_n hx hb dd_SH_goBack_46 rfl (lv_at hl 0 rfl) ?_
    refine gf_SH_37 C0 hP ho_v0 dd_SH_goBack_47 ?_
    refine lv_iconst (v := 0) hx hb dd_SH_goBack_50 (by decide) ?_
    refine lv_bipush (v := 18) hx hb dd_SH_goBack_51 (by decide) ?_
    obtain ⟨h_5, hf⟩ := of_ifb hf
    obtain ⟨h_6, hf⟩ := of_ifb hf
    obtain ⟨x_7, hx_7, hf⟩ := of_st hf
    refine cpI C0 hap hP hS (tp_4_7 ho_v0) (tp_4_6 ho_v0) h_5 h_6 hx_7 hl.1 gw_m_SH_64 (Nat.le_of_ble_eq_true rfl) ⟨Nat.le_of_ble_eq_true rfl, Nat.le_of_ble_eq_true rfl⟩ dd_SH_goBack_53 (fun H locs hP hS => ?_)
    exact rrV C0 hP hS dd_SH_goBack_56 hf
theorem cc_SH_goBack {l : Launch} {E : Ev} {A : Nat → Prop} {ad : Nat → Nat} (hap : Ap ad ixC A) {x x' : St} {v0 : Nat} {r : Unit} (ho_v0 : isO ixC v0 4) (hf : ff_SH_goBack x v0 = some (r, x')) : Met l yy_SH_goBack (Cond.code yy_SH_goBack bb_SH_goBack 1 (none) :: gtb) rm_SH_goBack (va_Pc [.ref (ad v0)] (PB E A ad ixC x)) (QX E ad ixC A (none) x') 0 0 A := by
  exact enter (by decide) (Nat.le_of_ble_eq_true rfl) (fun p e s m below meth c ls C0 hP hS hl => ww_SH_goBack C0 hap ho_v0 hf hP hS hl)
abbrev rm_SH_mixJointsInto : Room := { frames := 2, cells := 0, slots := 0, locals := 43 }
theorem dd_SH_mixJointsInto_0 : decode bb_SH_mixJointsInto 0 = .ok (.lload_n 1, 1) := by decide +kernel
theorem dd_SH_mixJointsInto_1 : decode bb_SH_mixJointsInto 1 = .ok (.lstore_n 3, 1) := by decide +kernel
theorem dd_SH_mixJointsInto_2 : decode bb_SH_mixJointsInto 2 = .ok (.iconst 0, 1) := by decide +kernel
theorem dd_SH_mixJointsInto_3 : decode bb_SH_mixJointsInto 3 = .ok (.istore 5, 2) := by decide +kernel
theorem dd_SH_mixJointsInto_5 : decode bb_SH_mixJointsInto 5 = .ok (.iload 5, 2) := by decide +kernel
theorem dd_SH_mixJointsInto_7 : decode bb_SH_mixJointsInto 7 = .ok (.aload_n 0, 1) := by decide +kernel
theorem dd_SH_mixJointsInto_8 : decode bb_SH_mixJointsInto 8 = .ok (.getfield 20, 3) := by decide +kernel
theorem dd_SH_mixJointsInto_11 : decode bb_SH_mixJointsInto 11 = .ok (.getfield 50, 3) := by decide +kernel
theorem dd_SH_mixJointsInto_14 : decode bb_SH_mixJointsInto 14 = .ok (.if_icmp .ge 69, 3) := by decide +kernel
theorem dd_SH_mixJointsInto_17 : decode bb_SH_mixJointsInto 17 = .ok (.ldc2_w 138, 3) := by decide +kernel
theorem dd_SH_mixJointsInto_20 : decode bb_SH_mixJointsInto 20 = .ok (.lload_n 3, 1) := by decide +kernel
theorem dd_SH_mixJointsInto_21 : decode bb_SH_mixJointsInto 21 = .ok (.lmul, 1) := by decide +kernel
theorem dd_SH_mixJointsInto_22 : decode bb_SH_mixJointsInto 22 = .ok (.aload_n 0, 1) := by decide +kernel
theorem dd_SH_mixJointsInto_23 : decode bb_SH_mixJointsInto 23 = .ok (.getfield 20, 3) := by decide +kernel
theorem dd_SH_mixJointsInto_26 : decode bb_SH_mixJointsInto 26 = .ok (.iload 5, 2) := by decide +kernel
theorem dd_SH_mixJointsInto_28 : decode bb_SH_mixJointsInto 28 = .ok (.iconst 0, 1) := by decide +kernel
theorem dd_SH_mixJointsInto_29 : decode bb_SH_mixJointsInto 29 = .ok (.invokevirtual 78, 3) := by decide +kernel
theorem dd_SH_mixJointsInto_32 : decode bb_SH_mixJointsInto 32 = .ok (.i2l, 1) := by decide +kernel
theorem dd_SH_mixJointsInto_33 : decode bb_SH_mixJointsInto 33 = .ok (.ladd, 1) := by decide +kernel
theorem dd_SH_mixJointsInto_34 : decode bb_SH_mixJointsInto 34 = .ok (.lstore_n 3, 1) := by decide +kernel
theorem dd_SH_mixJointsInto_35 : decode bb_SH_mixJointsInto 35 = .ok (.ldc2_w 138, 3) := by decide +kernel
theorem dd_SH_mixJointsInto_38 : decode bb_SH_mixJointsInto 38 = .ok (.lload_n 3, 1) := by decide +kernel
theorem dd_SH_mixJointsInto_39 : decode bb_SH_mixJointsInto 39 = .ok (.lmul, 1) := by decide +kernel
theorem dd_SH_mixJointsInto_40 : decode bb_SH_mixJointsInto 40 = .ok (.aload_n 0, 1) := by decide +kernel
theorem dd_SH_mixJointsInto_41 : decode bb_SH_mixJointsInto 41 = .ok (.iload 5, 2) := by decide +kernel
theorem dd_SH_mixJointsInto_43 : decode bb_SH_mixJointsInto 43 = .ok (.invokevirtual 108, 3) := by decide +kernel
theorem dd_SH_mixJointsInto_46 : decode bb_SH_mixJointsInto 46 = .ok (.i2l, 1) := by decide +kernel
theorem dd_SH_mixJointsInto_47 : decode bb_SH_mixJointsInto 47 = .ok (.ladd, 1) := by decide +kernel
theorem dd_SH_mixJointsInto_48 : decode bb_SH_mixJointsInto 48 = .ok (.lstore_n 3, 1) := by decide +kernel
theorem dd_SH_mixJointsInto_49 : decode bb_SH_mixJointsInto 49 = .ok (.ldc2_w 138, 3) := by decide +kernel
theorem dd_SH_mixJointsInto_52 : decode bb_SH_mixJointsInto 52 = .ok (.lload_n 3, 1) := by decide +kernel
theorem dd_SH_mixJointsInto_53 : decode bb_SH_mixJointsInto 53 = .ok (.lmul, 1) := by decide +kernel
theorem dd_SH_mixJointsInto_54 : decode bb_SH_mixJointsInto 54 = .ok (.aload_n 0, 1) := by decide +kernel
theorem dd_SH_mixJointsInto_55 : decode bb_SH_mixJointsInto 55 = .ok (.iload 5, 2) := by decide +kernel
theorem dd_SH_mixJointsInto_57 : decode bb_SH_mixJointsInto 57 = .ok (.invokevirtual 112, 3) := by decide +kernel
theorem dd_SH_mixJointsInto_60 : decode bb_SH_mixJointsInto 60 = .ok (.i2l, 1) := by decide +kernel
theorem dd_SH_mixJointsInto_61 : decode bb_SH_mixJointsInto 61 = .ok (.ladd, 1) := by decide +kernel
theorem dd_SH_mixJointsInto_62 : decode bb_SH_mixJointsInto 62 = .ok (.lstore_n 3, 1) := by decide +kernel
theorem dd_SH_mixJointsInto_63 : decode bb_SH_mixJointsInto 63 = .ok (.ldc2_w 138, 3) := by decide +kernel
theorem dd_SH_mixJointsInto_66 : decode bb_SH_mixJointsInto 66 = .ok (.lload_n 3, 1) := by decide +kernel
theorem dd_SH_mixJointsInto_67 : decode bb_SH_mixJointsInto 67 = .ok (.lmul, 1) := by decide +kernel
theorem dd_SH_mixJointsInto_68 : decode bb_SH_mixJointsInto 68 = .ok (.aload_n 0, 1) := by decide +kernel
theorem dd_SH_mixJointsInto_69 : decode bb_SH_mixJointsInto 69 = .ok (.iload 5, 2) := by decide +kernel
theorem dd_SH_mixJointsInto_71 : decode bb_SH_mixJointsInto 71 = .ok (.invokevirtual 119, 3) := by decide +kernel
theorem dd_SH_mixJointsInto_74 : decode bb_SH_mixJointsInto 74 = .ok (.i2l, 1) := by decide +kernel
theorem dd_SH_mixJointsInto_75 : decode bb_SH_mixJointsInto 75 = .ok (.ladd, 1) := by decide +kernel
theorem dd_SH_mixJointsInto_76 : decode bb_SH_mixJointsInto 76 = .ok (.lstore_n 3, 1) := by decide +kernel
theorem dd_SH_mixJointsInto_77 : decode bb_SH_mixJointsInto 77 = .ok (.iinc 5 1, 3) := by decide +kernel
theorem dd_SH_mixJointsInto_80 : decode bb_SH_mixJointsInto 80 = .ok (.goto (-75), 3) := by decide +kernel
theorem dd_SH_mixJointsInto_83 : decode bb_SH_mixJointsInto 83 = .ok (.lload_n 3, 1) := by decide +kernel
theorem dd_SH_mixJointsInto_84 : decode bb_SH_mixJointsInto 84 = .ok (.lreturn, 1) := by decide +kernel
def ff_SH_mixJointsInto_5  : Nat → St → Nat → Int64 → Int32 → Option (Int64 × St)
  | 0, _, _, _, _ => none
  | n + 1, x, v0, v3, v5 => (if (gi x (rf v0 1) 3) ≤ v5 then some (v3, x) else bnd (ff_LE_at x (rf v0 1) v5 0) (fun r_2 x_3 => lj ((31 * v3) + (r_2.toInt64)) (fun u_5 => bnd (ff_SH_boiledOn x_3 v0 v5) (fun r_6 x_7 => lj ((31 * u_5) + (r_6.toInt64)) (fun u_9 => bnd (ff_SH_firstBoiler x_7 v0 v5) (fun r_10 x_11 => lj ((31 * u_9) + (r_10.toInt64)) (fun u_13 => bnd (ff_SH_secondBoiler x_11 v0 v5) (fun r_14 x_15 => lj ((31 * u_13) + (r_14.toInt64)) (fun u_17 => ff_SH_mixJointsInto_5 n x_15 v0 u_17 (v5 + 1))))))))))
def ff_SH_mixJointsInto  (x : St) (v0 : Nat) (v1 : Int64) : Option (Int64 × St) := ff_SH_mixJointsInto_5 FU x v0 v1 0
set_option maxHeartbeats 4000000 in
set_option maxRecDepth 100000 in
theorem ww_SH_mixJointsInto_5 {p : Program} {l : Launch} {e : Env} {s : State} {m : MethodId} {args : Array Value} {below : List Frame} {meth : Method} {c : Code} {E : Ev} {A : Nat → Prop} {ad : Nat → Nat} {r : Int64} {x' : St} (C0 : Cx E A RSH bb_SH_mixJointsInto 6 (some .long) p s m args meth c) (hap : Ap ad ixC A)  : ∀ (n : Nat), ∀ (x : St) (v0 : Nat) (v3 : Int64) (v5 : Int32), (isO ixC v0 4) → ff_SH_mixJointsInto_5 n x v0 v3 v5 = some (r, x') → ∀ (H : Heap) (locs : List Loc) (ls : Array Slot), Wd E ad ixC x H → va_S A s.heap H locs → lv_has ls 6 [(0, .ref (ad v0)), (3, .long v3), (5, .int v5)] → W p l e rm_SH_mixJointsInto s m args below meth c H locs 0 0 (MQ below (QX E ad ixC A (some (.long r)) x') args s 0 0 A) (F0 m 5 ls []) := by
  obtain ⟨hx, hb, hml, hr, hown, hts, hlk, hK⟩ := id C0
  intro n
  induction n with
  | zero => intro x v0 v3 v5 ho_v0 hf; exact of_no hf
  | succ n ih =>
    intro x v0 v3 v5 ho_v0 hf H locs ls hP hS hl
    have hf : (if (gi x (rf v0 1) 3) ≤ v5 then some (v3, x) else bnd (ff_LE_at x (rf v0 1) v5 0) (fun r_2 x_3 => lj ((31 * v3) + (r_2.toInt64)) (fun u_5 => bnd (ff_SH_boiledOn x_3 v0 v5) (fun r_6 x_7 => lj ((31 * u_5) + (r_6.toInt64)) (fun u_9 => bnd (ff_SH_firstBoiler x_7 v0 v5) (fun r_10 x_11 => lj ((31 * u_9) + (r_10.toInt64)) (fun u_13 => bnd (ff_SH_secondBoiler x_11 v0 v5) (fun r_14 x_15 => lj ((31 * u_13) + (r_14.toInt64)) (fun u_17 => ff_SH_mixJointsInto_5 n x_15 v0 u_17 (v5 + 1)))))))))) = some (r, x') := hf
    refine lv_iload hx hb dd_SH_mixJointsInto_5 (lv_at hl 2 rfl) ?_
    refine lv_aload_n hx hb dd_SH_mixJointsInto_7 rfl (lv_at hl 0 rfl) ?_
    refine gf_SH_20 C0 hP ho_v0 dd_SH_mixJointsInto_8 ?_
    refine gf_SH_50 C0 hP (tp_4_1 ho_v0) dd_SH_mixJointsInto_11 ?_
    refine lv_icmp_ge (tgt := 83) hx hb dd_SH_mixJointsInto_14 (by decide) (fun h_1 => ?_) (fun h_1 => ?_)
    · have hf := (if_pos h_1).symm.trans hf
      refine lv_lload_n hx hb dd_SH_mixJointsInto_83 rfl (lv_at hl 1 rfl) ?_
      exact rrL C0 hP hS dd_SH_mixJointsInto_84 hf
    · have hf := (if_neg h_1).symm.trans hf
      refine lv_ldc2 (v := 31) hx hb hown (hts _ gw_k_SH_138) dd_SH_mixJointsInto_17 ?_
      refine lv_lload_n hx hb dd_SH_mixJointsInto_20 rfl (lv_at hl 1 rfl) ?_
      refine lv_lmul hx hb dd_SH_mixJointsInto_21 ?_
      refine lv_aload_n hx hb dd_SH_mixJointsInto_22 rfl (lv_at hl 0 rfl) ?_
      refine gf_SH_20 C0 hP ho_v0 dd_SH_mixJointsInto_23 ?_
      refine lv_iload hx hb dd_SH_mixJointsInto_26 (lv_at hl 2 rfl) ?_
      refine lv_iconst (v := 0) hx hb dd_SH_mixJointsInto_28 (by decide) ?_
      obtain ⟨r_2, x_3, c_4, hf⟩ := of_bnd hf
      refine cl_SH_78 C0 hap (tp_4_1 ho_v0) c_4 hP hS ⟨Nat.le_of_ble_eq_true rfl, Nat.le_of_ble_eq_true rfl⟩ hl.1 (Nat.le_of_ble_eq_true rfl) dd_SH_mixJointsInto_29 ⟨Nat.le_refl _, Nat.le_refl _⟩ (fun H locs hP hS => ?_)
      refine lv_i2l hx hb dd_SH_mixJointsInto_32 rfl ?_
      refine lv_ladd hx hb dd_SH_mixJointsInto_33 ?_
      obtain ⟨u_5, eu_5, hf⟩ := of_lj hf
      refine tpj eu_5 ?_
      refine lv_lstore_n (lv' := [(3, .long u_5), (0, .ref (ad v0)), (5, .int v5)]) hx hb dd_SH_mixJointsInto_34 rfl hl (by decide) rfl (fun ls hl => ?_)
      refine lv_ldc2 (v := 31) hx hb hown (hts _ gw_k_SH_138) dd_SH_mixJointsInto_35 ?_
      refine lv_lload_n hx hb dd_SH_mixJointsInto_38 rfl (lv_at hl 0 rfl) ?_
      refine lv_lmul hx hb dd_SH_mixJointsInto_39 ?_
      refine lv_aload_n hx hb dd_SH_mixJointsInto_40 rfl (lv_at hl 1 rfl) ?_
      refine lv_iload hx hb dd_SH_mixJointsInto_41 (lv_at hl 2 rfl) ?_
      obtain ⟨r_6, x_7, c_8, hf⟩ := of_bnd hf
      refine cl_SH_108 C0 hap ho_v0 c_8 hP hS ⟨Nat.le_of_ble_eq_true rfl, Nat.le_of_ble_eq_true rfl⟩ hl.1 (Nat.le_of_ble_eq_true rfl) dd_SH_mixJointsInto_43 ⟨Nat.le_refl _, Nat.le_refl _⟩ (fun H locs hP hS => ?_)
      refine lv_i2l hx hb dd_SH_mixJointsInto_46 rfl ?_
      refine lv_ladd hx hb dd_SH_mixJointsInto_47 ?_
      obtain ⟨u_9, eu_9, hf⟩ := of_lj hf
      refine tpj eu_9 ?_
      refine lv_lstore_n (lv' := [(3, .long u_9), (0, .ref (ad v0)), (5, .int v5)]) hx hb dd_SH_mixJointsInto_48 rfl hl (by decide) rfl (fun ls hl => ?_)
      refine lv_ldc2 (v := 31) hx hb hown (hts _ gw_k_SH_138) dd_SH_mixJointsInto_49 ?_
      refine lv_lload_n hx hb dd_SH_mixJointsInto_52 rfl (lv_at hl 0 rfl) ?_
      refine lv_lmul hx hb dd_SH_mixJointsInto_53 ?_
      refine lv_aload_n hx hb dd_SH_mixJointsInto_54 rfl (lv_at hl 1 rfl) ?_
      refine lv_iload hx hb dd_SH_mixJointsInto_55 (lv_at hl 2 rfl) ?_
      obtain ⟨r_10, x_11, c_12, hf⟩ := of_bnd hf
      refine cl_SH_112 C0 hap ho_v0 c_12 hP hS ⟨Nat.le_of_ble_eq_true rfl, Nat.le_of_ble_eq_true rfl⟩ hl.1 (Nat.le_of_ble_eq_true rfl) dd_SH_mixJointsInto_57 ⟨Nat.le_refl _, Nat.le_refl _⟩ (fun H locs hP hS => ?_)
      refine lv_i2l hx hb dd_SH_mixJointsInto_60 rfl ?_
      refine lv_ladd hx hb dd_SH_mixJointsInto_61 ?_
      obtain ⟨u_13, eu_13, hf⟩ := of_lj hf
      refine tpj eu_13 ?_
      refine lv_lstore_n (lv' := [(3, .long u_13), (0, .ref (ad v0)), (5, .int v5)]) hx hb dd_SH_mixJointsInto_62 rfl hl (by decide) rfl (fun ls hl => ?_)
      refine lv_ldc2 (v := 31) hx hb hown (hts _ gw_k_SH_138) dd_SH_mixJointsInto_63 ?_
      refine lv_lload_n hx hb dd_SH_mixJointsInto_66 rfl (lv_at hl 0 rfl) ?_
      refine lv_lmul hx hb dd_SH_mixJointsInto_67 ?_
      refine lv_aload_n hx hb dd_SH_mixJointsInto_68 rfl (lv_at hl 1 rfl) ?_
      refine lv_iload hx hb dd_SH_mixJointsInto_69 (lv_at hl 2 rfl) ?_
      obtain ⟨r_14, x_15, c_16, hf⟩ := of_bnd hf
      refine cl_SH_119 C0 hap ho_v0 c_16 hP hS ⟨Nat.le_of_ble_eq_true rfl, Nat.le_of_ble_eq_true rfl⟩ hl.1 (Nat.le_of_ble_eq_true rfl) dd_SH_mixJointsInto_71 ⟨Nat.le_refl _, Nat.le_refl _⟩ (fun H locs hP hS => ?_)
      refine lv_i2l hx hb dd_SH_mixJointsInto_74 rfl ?_
      refine lv_ladd hx hb dd_SH_mixJointsInto_75 ?_
      obtain ⟨u_17, eu_17, hf⟩ := of_lj hf
      refine tpj eu_17 ?_
      refine lv_lstore_n (lv' := [(3, .long u_17), (0, .ref (ad v0)), (5, .int v5)]) hx hb dd_SH_mixJointsInto_76 rfl hl (by decide) rfl (fun ls hl => ?_)
      refine lv_iinc (v := v5 + 1) (lv' := [(5, .int (v5 + 1)), (3, .long u_17), (0, .ref (ad v0))]) hx hb dd_SH_mixJointsInto_77 hl (k := 2) rfl rfl (by decide) rfl (fun ls hl => ?_)
      refine lv_goto (tgt := 5) hx hb dd_SH_mixJointsInto_80 (by decide) ?_
      exact ih x_15 v0 u_17 (v5 + 1) ho_v0 hf _ _ _ hP hS (lv_sub hl [2, 1, 0] rfl)
set_option maxHeartbeats 4000000 in
set_option maxRecDepth 100000 in
theorem ww_SH_mixJointsInto {p : Program} {l : Launch} {e : Env} {s : State} {m : MethodId} {args : Array Value} {below : List Frame} {meth : Method} {c : Code} {E : Ev} {A : Nat → Prop} {ad : Nat → Nat} {r : Int64} {x' : St} (C0 : Cx E A RSH bb_SH_mixJointsInto 6 (some .long) p s m args meth c) (hap : Ap ad ixC A)  {x : St} {v0 : Nat} {v1 : Int64} (ho_v0 : isO ixC v0 4) (hf : ff_SH_mixJointsInto x v0 v1 = some (r, x')) {H : Heap} {locs : List Loc} {ls : Array Slot} (hP : Wd E ad ixC x H) (hS : va_S A s.heap H locs) (hl : lv_has ls 6 [(0, .ref (ad v0)), (1, .long v1)]) : W p l e rm_SH_mixJointsInto s m args below meth c H locs 0 0 (MQ below (QX E ad ixC A (some (.long r)) x') args s 0 0 A) (F0 m 0 ls []) := by
  obtain ⟨hx, hb, hml, hr, hown, hts, hlk, hK⟩ := id C0
  have hf : ff_SH_mixJointsInto_5 FU x v0 v1 0 = some (r, x') := hf
  refine lv_lload_n hx hb dd_SH_mixJointsInto_0 rfl (lv_at hl 1 rfl) ?_
  refine lv_lstore_n (lv' := [(3, .long v1), (0, .ref (ad v0)), (1, .long v1)]) hx hb dd_SH_mixJointsInto_1 rfl hl (by decide) rfl (fun ls hl => ?_)
  refine lv_iconst (v := 0) hx hb dd_SH_mixJointsInto_2 (by decide) ?_
  refine lv_istore (lv' := [(5, .int 0), (3, .long v1), (0, .ref (ad v0)), (1, .long v1)]) hx hb dd_SH_mixJointsInto_3 hl (by decide) rfl (fun ls hl => ?_)
  exact ww_SH_mixJointsInto_5 C0 hap  FU x v0 v1 0 ho_v0 hf _ _ _ hP hS (lv_sub hl [2, 1, 0] rfl)
theorem cc_SH_mixJointsInto {l : Launch} {E : Ev} {A : Nat → Prop} {ad : Nat → Nat} (hap : Ap ad ixC A) {x x' : St} {v0 : Nat} {v1 : Int64} {r : Int64} (ho_v0 : isO ixC v0 4) (hf : ff_SH_mixJointsInto x v0 v1 = some (r, x')) : Met l yy_SH_mixJointsInto (Cond.code yy_SH_mixJointsInto bb_SH_mixJointsInto 6 (some .long) :: gtb) rm_SH_mixJointsInto (va_Pc [.ref (ad v0), .long v1] (PB E A ad ixC x)) (QX E ad ixC A (some (.long r)) x') 0 0 A := by
  exact enter (by decide) (Nat.le_of_ble_eq_true rfl) (fun p e s m below meth c ls C0 hP hS hl => ww_SH_mixJointsInto C0 hap ho_v0 hf hP hS hl)
