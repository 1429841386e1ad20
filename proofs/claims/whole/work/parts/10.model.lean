abbrev rm_MO_in : Room := { frames := 0, cells := 0, slots := 0, locals := 0 }
theorem dd_MO_in_0 : decode bb_MO_in 0 = .ok (.iload_n 0, 1) := by decide +kernel
theorem dd_MO_in_1 : decode bb_MO_in 1 = .ok (.iload_n 1, 1) := by decide +kernel
theorem dd_MO_in_2 : decode bb_MO_in 2 = .ok (.if_icmp .lt 12, 3) := by decide +kernel
theorem dd_MO_in_5 : decode bb_MO_in 5 = .ok (.iload_n 0, 1) := by decide +kernel
theorem dd_MO_in_6 : decode bb_MO_in 6 = .ok (.iload_n 2, 1) := by decide +kernel
theorem dd_MO_in_7 : decode bb_MO_in 7 = .ok (.if_icmp .gt 7, 3) := by decide +kernel
theorem dd_MO_in_10 : decode bb_MO_in 10 = .ok (.iconst 1, 1) := by decide +kernel
theorem dd_MO_in_11 : decode bb_MO_in 11 = .ok (.goto 4, 3) := by decide +kernel
theorem dd_MO_in_14 : decode bb_MO_in 14 = .ok (.iconst 0, 1) := by decide +kernel
theorem dd_MO_in_15 : decode bb_MO_in 15 = .ok (.ireturn, 1) := by decide +kernel
def ff_MO_in  (x : St) (v0 : Int32) (v1 : Int32) (v2 : Int32) : Option (Int32 × St) := (if v0 < v1 then some (0, x) else (if v2 < v0 then some (0, x) else some (1, x)))
set_option maxHeartbeats 4000000 in
set_option maxRecDepth 100000 in
theorem ww_MO_in {p : Program} {l : Launch} {e : Env} {s : State} {m : MethodId} {args : Array Value} {below : List Frame} {meth : Method} {c : Code} {E : Ev} {A : Nat → Prop} {ad : Nat → Nat} {r : Int32} {x' : St} (C0 : Cx E A RMO bb_MO_in 3 (some .boolean) p s m args meth c) (hap : Ap ad ixM A)  {x : St} {v0 : Int32} {v1 : Int32} {v2 : Int32}  (hf : ff_MO_in x v0 v1 v2 = some (r, x')) {H : Heap} {locs : List Loc} {ls : Array Slot} (hP : Wd E ad ixM x H) (hS : va_S A s.heap H locs) (hl : lv_has ls 3 [(0, .int v0), (1, .int v1), (2, .int v2)]) : W p l e rm_MO_in s m args below meth c H locs 0 0 (MQ below (QX E ad ixM A (some (.int r)) x') args s 0 0 A) (F0 m 0 ls []) := by
  obtain ⟨hx, hb, hml, hr, hown, hts, hlk, hK⟩ := id C0
  have hf : (if v0 < v1 then some (0, x) else (if v2 < v0 then some (0, x) else some (1, x))) = some (r, x') := hf
  refine lv_iload_n hx hb dd_MO_in_0 rfl (lv_at hl 0 rfl) ?_
  refine lv_iload_n hx hb dd_MO_in_1 rfl (lv_at hl 1 rfl) ?_
  refine lv_icmp_lt (tgt := 14) hx hb dd_MO_in_2 (by decide) (fun h_1 => ?_) (fun h_1 => ?_)
  · have hf := (if_pos h_1).symm.trans hf
    refine lv_iconst (v := 0) hx hb dd_MO_in_14 (by decide) ?_
    exact rrZ C0 hP hS (by decide) dd_MO_in_15 hf
  · have hf := (if_neg h_1).symm.trans hf
    refine lv_iload_n hx hb dd_MO_in_5 rfl (lv_at hl 0 rfl) ?_
    refine lv_iload_n hx hb dd_MO_in_6 rfl (lv_at hl 2 rfl) ?_
    refine lv_icmp_gt (tgt := 14) hx hb dd_MO_in_7 (by decide) (fun h_2 => ?_) (fun h_2 => ?_)
    · have hf := (if_pos h_2).symm.trans hf
      refine lv_iconst (v := 0) hx hb dd_MO_in_14 (by decide) ?_
      exact rrZ C0 hP hS (by decide) dd_MO_in_15 hf
    · have hf := (if_neg h_2).symm.trans hf
      refine lv_iconst (v := 1) hx hb dd_MO_in_10 (by decide) ?_
      refine lv_goto (tgt := 15) hx hb dd_MO_in_11 (by decide) ?_
      exact rrZ C0 hP hS (by decide) dd_MO_in_15 hf
theorem cc_MO_in {l : Launch} {E : Ev} {A : Nat → Prop} {ad : Nat → Nat} (hap : Ap ad ixM A) {x x' : St} {v0 : Int32} {v1 : Int32} {v2 : Int32} {r : Int32}  (hf : ff_MO_in x v0 v1 v2 = some (r, x')) : Met l yy_MO_in (Cond.code yy_MO_in bb_MO_in 3 (some .boolean) :: gtb) rm_MO_in (va_Pc [.int v0, .int v1, .int v2] (PB E A ad ixM x)) (QX E ad ixM A (some (.int r)) x') 0 0 A := by
  exact enter (by decide) (Nat.le_of_ble_eq_true rfl) (fun p e s m below meth c ls C0 hP hS hl => ww_MO_in C0 hap  hf hP hS hl)
abbrev rm_MO_bad : Room := { frames := 0, cells := 0, slots := 0, locals := 0 }
theorem dd_MO_bad_0 : decode bb_MO_bad 0 = .ok (.aload_n 0, 1) := by decide +kernel
theorem dd_MO_bad_1 : decode bb_MO_bad 1 = .ok (.getfield 17, 3) := by decide +kernel
theorem dd_MO_bad_4 : decode bb_MO_bad 4 = .ok (.iconst 0, 1) := by decide +kernel
theorem dd_MO_bad_5 : decode bb_MO_bad 5 = .ok (.dup2, 1) := by decide +kernel
theorem dd_MO_bad_6 : decode bb_MO_bad 6 = .ok (.iaload, 1) := by decide +kernel
theorem dd_MO_bad_7 : decode bb_MO_bad 7 = .ok (.iconst 1, 1) := by decide +kernel
theorem dd_MO_bad_8 : decode bb_MO_bad 8 = .ok (.iadd, 1) := by decide +kernel
theorem dd_MO_bad_9 : decode bb_MO_bad 9 = .ok (.iastore, 1) := by decide +kernel
theorem dd_MO_bad_10 : decode bb_MO_bad 10 = .ok (.bipush (-2), 2) := by decide +kernel
theorem dd_MO_bad_12 : decode bb_MO_bad 12 = .ok (.ireturn, 1) := by decide +kernel
def ff_MO_bad  (x : St) (v0 : Nat) : Option (Int32 × St) := (if ixb 0 (ln (rf v0 3)) = true then (if ixb 0 (ln (rf v0 3)) = true then st (si x (rf v0 3) (ix 0) ((gi x (rf v0 3) (ix 0)) + 1)) (fun x_3 => some ((-2), x_3)) else none) else none)
set_option maxHeartbeats 4000000 in
set_option maxRecDepth 100000 in
theorem ww_MO_bad {p : Program} {l : Launch} {e : Env} {s : State} {m : MethodId} {args : Array Value} {below : List Frame} {meth : Method} {c : Code} {E : Ev} {A : Nat → Prop} {ad : Nat → Nat} {r : Int32} {x' : St} (C0 : Cx E A RMO bb_MO_bad 1 (some .int) p s m args meth c) (hap : Ap ad ixM A)  {x : St} {v0 : Nat} (ho_v0 : isO ixM v0 6) (hf : ff_MO_bad x v0 = some (r, x')) {H : Heap} {locs : List Loc} {ls : Array Slot} (hP : Wd E ad ixM x H) (hS : va_S A s.heap H locs) (hl : lv_has ls 1 [(0, .ref (ad v0))]) : W p l e rm_MO_bad s m args below meth c H locs 0 0 (MQ below (QX E ad ixM A (some (.int r)) x') args s 0 0 A) (F0 m 0 ls []) := by
  obtain ⟨hx, hb, hml, hr, hown, hts, hlk, hK⟩ := id C0
  have hf : (if ixb 0 (ln (rf v0 3)) = true then (if ixb 0 (ln (rf v0 3)) = true then st (si x (rf v0 3) (ix 0) ((gi x (rf v0 3) (ix 0)) + 1)) (fun x_3 => some ((-2), x_3)) else none) else none) = some (r, x') := hf
  refine lv_aload_n hx hb dd_MO_bad_0 rfl (lv_at hl 0 rfl) ?_
  refine gf_MO_17 C0 hP ho_v0 dd_MO_bad_1 ?_
  refine lv_iconst (v := 0) hx hb dd_MO_bad_4 (by decide) ?_
  refine lv_dup2_11 hx hb dd_MO_bad_5 rfl rfl ?_
  obtain ⟨h_1, hf⟩ := of_ifb hf
  refine raI C0 hP (tp_6_3 ho_v0) h_1 dd_MO_bad_6 ?_
  refine lv_iconst (v := 1) hx hb dd_MO_bad_7 (by decide) ?_
  refine lv_iadd hx hb dd_MO_bad_8 ?_
  obtain ⟨h_2, hf⟩ := of_ifb hf
  obtain ⟨x_3, hx_3, hf⟩ := of_st hf
  refine sI C0 hap hP hS (tp_6_3 ho_v0) h_2 hx_3 dd_MO_bad_9 (fun H locs hP hS => ?_)
  refine lv_bipush (v := -2) hx hb dd_MO_bad_10 (by decide) ?_
  exact rrI C0 hP hS dd_MO_bad_12 hf
theorem cc_MO_bad {l : Launch} {E : Ev} {A : Nat → Prop} {ad : Nat → Nat} (hap : Ap ad ixM A) {x x' : St} {v0 : Nat} {r : Int32} (ho_v0 : isO ixM v0 6) (hf : ff_MO_bad x v0 = some (r, x')) : Met l yy_MO_bad (Cond.code yy_MO_bad bb_MO_bad 1 (some .int) :: gtb) rm_MO_bad (va_Pc [.ref (ad v0)] (PB E A ad ixM x)) (QX E ad ixM A (some (.int r)) x') 0 0 A := by
  exact enter (by decide) (Nat.le_of_ble_eq_true rfl) (fun p e s m below meth c ls C0 hP hS hl => ww_MO_bad C0 hap ho_v0 hf hP hS hl)
abbrev rm_MO_no : Room := { frames := 0, cells := 0, slots := 0, locals := 0 }
theorem dd_MO_no_0 : decode bb_MO_no 0 = .ok (.aload_n 0, 1) := by decide +kernel
theorem dd_MO_no_1 : decode bb_MO_no 1 = .ok (.getfield 17, 3) := by decide +kernel
theorem dd_MO_no_4 : decode bb_MO_no 4 = .ok (.iconst 1, 1) := by decide +kernel
theorem dd_MO_no_5 : decode bb_MO_no 5 = .ok (.dup2, 1) := by decide +kernel
theorem dd_MO_no_6 : decode bb_MO_no 6 = .ok (.iaload, 1) := by decide +kernel
theorem dd_MO_no_7 : decode bb_MO_no 7 = .ok (.iconst 1, 1) := by decide +kernel
theorem dd_MO_no_8 : decode bb_MO_no 8 = .ok (.iadd, 1) := by decide +kernel
theorem dd_MO_no_9 : decode bb_MO_no 9 = .ok (.iastore, 1) := by decide +kernel
theorem dd_MO_no_10 : decode bb_MO_no 10 = .ok (.bipush (-3), 2) := by decide +kernel
theorem dd_MO_no_12 : decode bb_MO_no 12 = .ok (.ireturn, 1) := by decide +kernel
def ff_MO_no  (x : St) (v0 : Nat) : Option (Int32 × St) := (if ixb 1 (ln (rf v0 3)) = true then (if ixb 1 (ln (rf v0 3)) = true then st (si x (rf v0 3) (ix 1) ((gi x (rf v0 3) (ix 1)) + 1)) (fun x_3 => some ((-3), x_3)) else none) else none)
set_option maxHeartbeats 4000000 in
set_option maxRecDepth 100000 in
theorem ww_MO_no {p : Program} {l : Launch} {e : Env} {s : State} {m : MethodId} {args : Array Value} {below : List Frame} {meth : Method} {c : Code} {E : Ev} {A : Nat → Prop} {ad : Nat → Nat} {r : Int32} {x' : St} (C0 : Cx E A RMO bb_MO_no 1 (some .int) p s m args meth c) (hap : Ap ad ixM A)  {x : St} {v0 : Nat} (ho_v0 : isO ixM v0 6) (hf : ff_MO_no x v0 = some (r, x')) {H : Heap} {locs : List Loc} {ls : Array Slot} (hP : Wd E ad ixM x H) (hS : va_S A s.heap H locs) (hl : lv_has ls 1 [(0, .ref (ad v0))]) : W p l e rm_MO_no s m args below meth c H locs 0 0 (MQ below (QX E ad ixM A (some (.int r)) x') args s 0 0 A) (F0 m 0 ls []) := by
  obtain ⟨hx, hb, hml, hr, hown, hts, hlk, hK⟩ := id C0
  have hf : (if ixb 1 (ln (rf v0 3)) = true then (if ixb 1 (ln (rf v0 3)) = true then st (si x (rf v0 3) (ix 1) ((gi x (rf v0 3) (ix 1)) + 1)) (fun x_3 => some ((-3), x_3)) else none) else none) = some (r, x') := hf
  refine lv_aload_n hx hb dd_MO_no_0 rfl (lv_at hl 0 rfl) ?_
  refine gf_MO_17 C0 hP ho_v0 dd_MO_no_1 ?_
  refine lv_iconst (v := 1) hx hb dd_MO_no_4 (by decide) ?_
  refine lv_dup2_11 hx hb dd_MO_no_5 rfl rfl ?_
  obtain ⟨h_1, hf⟩ := of_ifb hf
  refine raI C0 hP (tp_6_3 ho_v0) h_1 dd_MO_no_6 ?_
  refine lv_iconst (v := 1) hx hb dd_MO_no_7 (by decide) ?_
  refine lv_iadd hx hb dd_MO_no_8 ?_
  obtain ⟨h_2, hf⟩ := of_ifb hf
  obtain ⟨x_3, hx_3, hf⟩ := of_st hf
  refine sI C0 hap hP hS (tp_6_3 ho_v0) h_2 hx_3 dd_MO_no_9 (fun H locs hP hS => ?_)
  refine lv_bipush (v := -3) hx hb dd_MO_no_10 (by decide) ?_
  exact rrI C0 hP hS dd_MO_no_12 hf
theorem cc_MO_no {l : Launch} {E : Ev} {A : Nat → Prop} {ad : Nat → Nat} (hap : Ap ad ixM A) {x x' : St} {v0 : Nat} {r : Int32} (ho_v0 : isO ixM v0 6) (hf : ff_MO_no x v0 = some (r, x')) : Met l yy_MO_no (Cond.code yy_MO_no bb_MO_no 1 (some .int) :: gtb) rm_MO_no (va_Pc [.ref (ad v0)] (PB E A ad ixM x)) (QX E ad ixM A (some (.int r)) x') 0 0 A := by
  exact enter (by decide) (Nat.le_of_ble_eq_true rfl) (fun p e s m below meth c ls C0 hP hS hl => ww_MO_no C0 hap ho_v0 hf hP hS hl)
abbrev rm_MO_full : Room := { frames := 0, cells := 0, slots := 0, locals := 0 }
theorem dd_MO_full_0 : decode bb_MO_full 0 = .ok (.aload_n 0, 1) := by decide +kernel
theorem dd_MO_full_1 : decode bb_MO_full 1 = .ok (.getfield 17, 3) := by decide +kernel
theorem dd_MO_full_4 : decode bb_MO_full 4 = .ok (.iconst 2, 1) := by decide +kernel
theorem dd_MO_full_5 : decode bb_MO_full 5 = .ok (.dup2, 1) := by decide +kernel
theorem dd_MO_full_6 : decode bb_MO_full 6 = .ok (.iaload, 1) := by decide +kernel
theorem dd_MO_full_7 : decode bb_MO_full 7 = .ok (.iconst 1, 1) := by decide +kernel
theorem dd_MO_full_8 : decode bb_MO_full 8 = .ok (.iadd, 1) := by decide +kernel
theorem dd_MO_full_9 : decode bb_MO_full 9 = .ok (.iastore, 1) := by decide +kernel
theorem dd_MO_full_10 : decode bb_MO_full 10 = .ok (.bipush (-4), 2) := by decide +kernel
theorem dd_MO_full_12 : decode bb_MO_full 12 = .ok (.ireturn, 1) := by decide +kernel
def ff_MO_full  (x : St) (v0 : Nat) : Option (Int32 × St) := (if ixb 2 (ln (rf v0 3)) = true then (if ixb 2 (ln (rf v0 3)) = true then st (si x (rf v0 3) (ix 2) ((gi x (rf v0 3) (ix 2)) + 1)) (fun x_3 => some ((-4), x_3)) else none) else none)
set_option maxHeartbeats 4000000 in
set_option maxRecDepth 100000 in
theorem ww_MO_full {p : Program} {l : Launch} {e : Env} {s : State} {m : MethodId} {args : Array Value} {below : List Frame} {meth : Method} {c : Code} {E : Ev} {A : Nat → Prop} {ad : Nat → Nat} {r : Int32} {x' : St} (C0 : Cx E A RMO bb_MO_full 1 (some .int) p s m args meth c) (hap : Ap ad ixM A)  {x : St} {v0 : Nat} (ho_v0 : isO ixM v0 6) (hf : ff_MO_full x v0 = some (r, x')) {H : Heap} {locs : List Loc} {ls : Array Slot} (hP : Wd E ad ixM x H) (hS : va_S A s.heap H locs) (hl : lv_has ls 1 [(0, .ref (ad v0))]) : W p l e rm_MO_full s m args below meth c H locs 0 0 (MQ below (QX E ad ixM A (some (.int r)) x') args s 0 0 A) (F0 m 0 ls []) := by
  obtain ⟨hx, hb, hml, hr, hown, hts, hlk, hK⟩ := id C0
  have hf : (if ixb 2 (ln (rf v0 3)) = true then (if ixb 2 (ln (rf v0 3)) = true then st (si x (rf v0 3) (ix 2) ((gi x (rf v0 3) (ix 2)) + 1)) (fun x_3 => some ((-4), x_3)) else none) else none) = some (r, x') := hf
  refine lv_aload_n hx hb dd_MO_full_0 rfl (lv_at hl 0 rfl) ?_
  refine gf_MO_17 C0 hP ho_v0 dd_MO_full_1 ?_
  refine lv_iconst (v := 2) hx hb dd_MO_full_4 (by decide) ?_
  refine lv_dup2_11 hx hb dd_MO_full_5 rfl rfl ?_
  obtain ⟨h_1, hf⟩ := of_ifb hf
  refine raI C0 hP (tp_6_3 ho_v0) h_1 dd_MO_full_6 ?_
  refine lv_iconst (v := 1) hx hb dd_MO_full_7 (by decide) ?_
  refine lv_iadd hx hb dd_MO_full_8 ?_
  obtain ⟨h_2, hf⟩ := of_ifb hf
  obtain ⟨x_3, hx_3, hf⟩ := of_st hf
  refine sI C0 hap hP hS (tp_6_3 ho_v0) h_2 hx_3 dd_MO_full_9 (fun H locs hP hS => ?_)
  refine lv_bipush (v := -4) hx hb dd_MO_full_10 (by decide) ?_
  exact rrI C0 hP hS dd_MO_full_12 hf
theorem cc_MO_full {l : Launch} {E : Ev} {A : Nat → Prop} {ad : Nat → Nat} (hap : Ap ad ixM A) {x x' : St} {v0 : Nat} {r : Int32} (ho_v0 : isO ixM v0 6) (hf : ff_MO_full x v0 = some (r, x')) : Met l yy_MO_full (Cond.code yy_MO_full bb_MO_full 1 (some .int) :: gtb) rm_MO_full (va_Pc [.ref (ad v0)] (PB E A ad ixM x)) (QX E ad ixM A (some (.int r)) x') 0 0 A := by
  exact enter (by decide) (Nat.le_of_ble_eq_true rfl) (fun p e s m below meth c ls C0 hP hS hl => ww_MO_full C0 hap ho_v0 hf hP hS hl)
abbrev rm_MO_get : Room := { frames := 0, cells := 0, slots := 0, locals := 0 }
theorem dd_MO_get_0 : decode bb_MO_get 0 = .ok (.aload_n 0, 1) := by decide +kernel
theorem dd_MO_get_1 : decode bb_MO_get 1 = .ok (.getfield 7, 3) := by decide +kernel
theorem dd_MO_get_4 : decode bb_MO_get 4 = .ok (.aload_n 0, 1) := by decide +kernel
theorem dd_MO_get_5 : decode bb_MO_get 5 = .ok (.getfield 57, 3) := by decide +kernel
theorem dd_MO_get_8 : decode bb_MO_get 8 = .ok (.iload_n 1, 1) := by decide +kernel
theorem dd_MO_get_9 : decode bb_MO_get 9 = .ok (.iadd, 1) := by decide +kernel
theorem dd_MO_get_10 : decode bb_MO_get 10 = .ok (.iaload, 1) := by decide +kernel
theorem dd_MO_get_11 : decode bb_MO_get 11 = .ok (.ireturn, 1) := by decide +kernel
def ff_MO_get  (x : St) (v0 : Nat) (v1 : Int32) : Option (Int32 × St) := (if ixb ((gi x v0 1) + v1) (ln (rf v0 0)) = true then some (gi x (rf v0 0) (ix ((gi x v0 1) + v1)), x) else none)
set_option maxHeartbeats 4000000 in
set_option maxRecDepth 100000 in
theorem ww_MO_get {p : Program} {l : Launch} {e : Env} {s : State} {m : MethodId} {args : Array Value} {below : List Frame} {meth : Method} {c : Code} {E : Ev} {A : Nat → Prop} {ad : Nat → Nat} {r : Int32} {x' : St} (C0 : Cx E A RMO bb_MO_get 2 (some .int) p s m args meth c) (hap : Ap ad ixM A)  {x : St} {v0 : Nat} {v1 : Int32} (ho_v0 : isO ixM v0 6) (hf : ff_MO_get x v0 v1 = some (r, x')) {H : Heap} {locs : List Loc} {ls : Array Slot} (hP : Wd E ad ixM x H) (hS : va_S A s.heap H locs) (hl : lv_has ls 2 [(0, .ref (ad v0)), (1, .int v1)]) : W p l e rm_MO_get s m args below meth c H locs 0 0 (MQ below (QX E ad ixM A (some (.int r)) x') args s 0 0 A) (F0 m 0 ls []) := by
  obtain ⟨hx, hb, hml, hr, hown, hts, hlk, hK⟩ := id C0
  have hf : (if ixb ((gi x v0 1) + v1) (ln (rf v0 0)) = true then some (gi x (rf v0 0) (ix ((gi x v0 1) + v1)), x) else none) = some (r, x') := hf
  refine lv_aload_n hx hb dd_MO_get_0 rfl (lv_at hl 0 rfl) ?_
  refine gf_MO_7 C0 hP ho_v0 dd_MO_get_1 ?_
  refine lv_aload_n hx hb dd_MO_get_4 rfl (lv_at hl 0 rfl) ?_
  refine gf_MO_57 C0 hP ho_v0 dd_MO_get_5 ?_
  refine lv_iload_n hx hb dd_MO_get_8 rfl (lv_at hl 1 rfl) ?_
  refine lv_iadd hx hb dd_MO_get_9 ?_
  obtain ⟨h_1, hf⟩ := of_ifb hf
  refine raI C0 hP (tp_6_0 ho_v0) h_1 dd_MO_get_10 ?_
  exact rrI C0 hP hS dd_MO_get_11 hf
theorem cc_MO_get {l : Launch} {E : Ev} {A : Nat → Prop} {ad : Nat → Nat} (hap : Ap ad ixM A) {x x' : St} {v0 : Nat} {v1 : Int32} {r : Int32} (ho_v0 : isO ixM v0 6) (hf : ff_MO_get x v0 v1 = some (r, x')) : Met l yy_MO_get (Cond.code yy_MO_get bb_MO_get 2 (some .int) :: gtb) rm_MO_get (va_Pc [.ref (ad v0), .int v1] (PB E A ad ixM x)) (QX E ad ixM A (some (.int r)) x') 0 0 A := by
  exact enter (by decide) (Nat.le_of_ble_eq_true rfl) (fun p e s m below meth c ls C0 hP hS hl => ww_MO_get C0 hap ho_v0 hf hP hS hl)
abbrev rm_MO_set : Room := { frames := 0, cells := 0, slots := 0, locals := 0 }
theorem dd_MO_set_0 : decode bb_MO_set 0 = .ok (.aload_n 0, 1) := by decide +kernel
theorem dd_MO_set_1 : decode bb_MO_set 1 = .ok (.getfield 7, 3) := by decide +kernel
theorem dd_MO_set_4 : decode bb_MO_set 4 = .ok (.aload_n 0, 1) := by decide +kernel
theorem dd_MO_set_5 : decode bb_MO_set 5 = .ok (.getfield 57, 3) := by decide +kernel
theorem dd_MO_set_8 : decode bb_MO_set 8 = .ok (.iload_n 1, 1) := by decide +kernel
theorem dd_MO_set_9 : decode bb_MO_set 9 = .ok (.iadd, 1) := by decide +kernel
theorem dd_MO_set_10 : decode bb_MO_set 10 = .ok (.iload_n 2, 1) := by decide +kernel
theorem dd_MO_set_11 : decode bb_MO_set 11 = .ok (.iastore, 1) := by decide +kernel
theorem dd_MO_set_12 : decode bb_MO_set 12 = .ok (.return_, 1) := by decide +kernel
def ff_MO_set  (x : St) (v0 : Nat) (v1 : Int32) (v2 : Int32) : Option (Unit × St) := (if ixb ((gi x v0 1) + v1) (ln (rf v0 0)) = true then st (si x (rf v0 0) (ix ((gi x v0 1) + v1)) v2) (fun x_2 => some ((), x_2)) else none)
set_option maxHeartbeats 4000000 in
set_option maxRecDepth 100000 in
theorem ww_MO_set {p : Program} {l : Launch} {e : Env} {s : State} {m : MethodId} {args : Array Value} {below : List Frame} {meth : Method} {c : Code} {E : Ev} {A : Nat → Prop} {ad : Nat → Nat} {r : Unit} {x' : St} (C0 : Cx E A RMO bb_MO_set 3 (none) p s m args meth c) (hap : Ap ad ixM A)  {x : St} {v0 : Nat} {v1 : Int32} {v2 : Int32} (ho_v0 : isO ixM v0 6) (hf : ff_MO_set x v0 v1 v2 = some (r, x')) {H : Heap} {locs : List Loc} {ls : Array Slot} (hP : Wd E ad ixM x H) (hS : va_S A s.heap H locs) (hl : lv_has ls 3 [(0, .ref (ad v0)), (1, .int v1), (2, .int v2)]) : W p l e rm_MO_set s m args below meth c H locs 0 0 (MQ below (QX E ad ixM A (none) x') args s 0 0 A) (F0 m 0 ls []) := by
  obtain ⟨hx, hb, hml, hr, hown, hts, hlk, hK⟩ := id C0
  have hf : (if ixb ((gi x v0 1) + v1) (ln (rf v0 0)) = true then st (si x (rf v0 0) (ix ((gi x v0 1) + v1)) v2) (fun x_2 => some ((), x_2)) else none) = some (r, x') := hf
  refine lv_aload_n hx hb dd_MO_set_0 rfl (lv_at hl 0 rfl) ?_
  refine gf_MO_7 C0 hP ho_v0 dd_MO_set_1 ?_
  refine lv_aload_n hx hb dd_MO_set_4 rfl (lv_at hl 0 rfl) ?_
  refine gf_MO_57 C0 hP ho_v0 dd_MO_set_5 ?_
  refine lv_iload_n hx hb dd_MO_set_8 rfl (lv_at hl 1 rfl) ?_
  refine lv_iadd hx hb dd_MO_set_9 ?_
  refine lv_iload_n hx hb dd_MO_set_10 rfl (lv_at hl 2 rfl) ?_
  obtain ⟨h_1, hf⟩ := of_ifb hf
  obtain ⟨x_2, hx_2, hf⟩ := of_st hf
  refine sI C0 hap hP hS (tp_6_0 ho_v0) h_1 hx_2 dd_MO_set_11 (fun H locs hP hS => ?_)
  exact rrV C0 hP hS dd_MO_set_12 hf
theorem cc_MO_set {l : Launch} {E : Ev} {A : Nat → Prop} {ad : Nat → Nat} (hap : Ap ad ixM A) {x x' : St} {v0 : Nat} {v1 : Int32} {v2 : Int32} {r : Unit} (ho_v0 : isO ixM v0 6) (hf : ff_MO_set x v0 v1 v2 = some (r, x')) : Met l yy_MO_set (Cond.code yy_MO_set bb_MO_set 3 (none) :: gtb) rm_MO_set (va_Pc [.ref (ad v0), .int v1, .int v2] (PB E A ad ixM x)) (QX E ad ixM A (none) x') 0 0 A := by
  exact enter (by decide) (Nat.le_of_ble_eq_true rfl) (fun p e s m below meth c ls C0 hP hS hl => ww_MO_set C0 hap ho_v0 hf hP hS hl)
abbrev rm_MO_copy : Room := { frames := 0, cells := 0, slots := 0, locals := 0 }
theorem dd_MO_copy_0 : decode bb_MO_copy 0 = .ok (.iconst 0, 1) := by decide +kernel
theorem dd_MO_copy_1 : decode bb_MO_copy 1 = .ok (.istore_n 3, 1) := by decide +kernel
theorem dd_MO_copy_2 : decode bb_MO_copy 2 = .ok (.iload_n 3, 1) := by decide +kernel
theorem dd_MO_copy_3 : decode bb_MO_copy 3 = .ok (.sipush 315, 3) := by decide +kernel
theorem dd_MO_copy_6 : decode bb_MO_copy 6 = .ok (.if_icmp .ge 25, 3) := by decide +kernel
theorem dd_MO_copy_9 : decode bb_MO_copy 9 = .ok (.aload_n 0, 1) := by decide +kernel
theorem dd_MO_copy_10 : decode bb_MO_copy 10 = .ok (.getfield 7, 3) := by decide +kernel
theorem dd_MO_copy_13 : decode bb_MO_copy 13 = .ok (.iload_n 2, 1) := by decide +kernel
theorem dd_MO_copy_14 : decode bb_MO_copy 14 = .ok (.iload_n 3, 1) := by decide +kernel
theorem dd_MO_copy_15 : decode bb_MO_copy 15 = .ok (.iadd, 1) := by decide +kernel
theorem dd_MO_copy_16 : decode bb_MO_copy 16 = .ok (.aload_n 0, 1) := by decide +kernel
theorem dd_MO_copy_17 : decode bb_MO_copy 17 = .ok (.getfield 7, 3) := by decide +kernel
theorem dd_MO_copy_20 : decode bb_MO_copy 20 = .ok (.iload_n 1, 1) := by decide +kernel
theorem dd_MO_copy_21 : decode bb_MO_copy 21 = .ok (.iload_n 3, 1) := by decide +kernel
theorem dd_MO_copy_22 : decode bb_MO_copy 22 = .ok (.iadd, 1) := by decide +kernel
theorem dd_MO_copy_23 : decode bb_MO_copy 23 = .ok (.iaload, 1) := by decide +kernel
theorem dd_MO_copy_24 : decode bb_MO_copy 24 = .ok (.iastore, 1) := by decide +kernel
theorem dd_MO_copy_25 : decode bb_MO_copy 25 = .ok (.iinc 3 1, 3) := by decide +kernel
theorem dd_MO_copy_28 : decode bb_MO_copy 28 = .ok (.goto (-26), 3) := by decide +kernel
theorem dd_MO_copy_31 : decode bb_MO_copy 31 = .ok (.return_, 1) := by decide +kernel
def ff_MO_copy_2  : Nat → St → Nat → Int32 → Int32 → Int32 → Option (Unit × St)
  | 0, _, _, _, _, _ => none
  | n + 1, x, v0, v1, v2, v3 => (if 315 ≤ v3 then some ((), x) else (if ixb (v1 + v3) (ln (rf v0 0)) = true then (if ixb (v2 + v3) (ln (rf v0 0)) = true then st (si x (rf v0 0) (ix (v2 + v3)) (gi x (rf v0 0) (ix (v1 + v3)))) (fun x_4 => ff_MO_copy_2 n x_4 v0 v1 v2 (v3 + 1)) else none) else none))
def ff_MO_copy  (x : St) (v0 : Nat) (v1 : Int32) (v2 : Int32) : Option (Unit × St) := ff_MO_copy_2 FU x v0 v1 v2 0
set_option maxHeartbeats 4000000 in
set_option maxRecDepth 100000 in
theorem ww_MO_copy_2 {p : Program} {l : Launch} {e : Env} {s : State} {m : MethodId} {args : Array Value} {below : List Frame} {meth : Method} {c : Code} {E : Ev} {A : Nat → Prop} {ad : Nat → Nat} {r : Unit} {x' : St} (C0 : Cx E A RMO bb_MO_copy 4 (none) p s m args meth c) (hap : Ap ad ixM A)  : ∀ (n : Nat), ∀ (x : St) (v0 : Nat) (v1 : Int32) (v2 : Int32) (v3 : Int32), (isO ixM v0 6) → ff_MO_copy_2 n x v0 v1 v2 v3 = some (r, x') → ∀ (H : Heap) (locs : List Loc) (ls : Array Slot), Wd E ad ixM x H → va_S A s.heap H locs → lv_has ls 4 [(0, .ref (ad v0)), (1, .int v1), (2, .int v2), (3, .int v3)] → W p l e rm_MO_copy s m args below meth c H locs 0 0 (MQ below (QX E ad ixM A (none) x') args s 0 0 A) (F0 m 2 ls []) := by
  obtain ⟨hx, hb, hml, hr, hown, hts, hlk, hK⟩ := id C0
  intro n
  induction n with
  | zero => intro x v0 v1 v2 v3 ho_v0 hf; exact of_no hf
  | succ n ih =>
    intro x v0 v1 v2 v3 ho_v0 hf H locs ls hP hS hl
    have hf : (if 315 ≤ v3 then some ((), x) else (if ixb (v1 + v3) (ln (rf v0 0)) = true then (if ixb (v2 + v3) (ln (rf v0 0)) = true then st (si x (rf v0 0) (ix (v2 + v3)) (gi x (rf v0 0) (ix (v1 + v3)))) (fun x_4 => ff_MO_copy_2 n x_4 v0 v1 v2 (v3 + 1)) else none) else none)) = some (r, x') := hf
    refine lv_iload_n hx hb dd_MO_copy_2 rfl (lv_at hl 3 rfl) ?_
    refine lv_sipush (v := 315) hx hb dd_MO_copy_3 (by decide) ?_
    refine lv_icmp_ge (tgt := 31) hx hb dd_MO_copy_6 (by decide) (fun h_1 => ?_) (fun h_1 => ?_)
    · have hf := (if_pos h_1).symm.trans hf
      exact rrV C0 hP hS dd_MO_copy_31 hf
    · have hf := (if_neg h_1).symm.trans hf
      refine lv_aload_n hx hb dd_MO_copy_9 rfl (lv_at hl 0 rfl) ?_
      refine gf_MO_7 C0 hP ho_v0 dd_MO_copy_10 ?_
      refine lv_iload_n hx hb dd_MO_copy_13 rfl (lv_at hl 2 rfl) ?_
      refine lv_iload_n hx hb dd_MO_copy_14 rfl (lv_at hl 3 rfl) ?_
      refine lv_iadd hx hb dd_MO_copy_15 ?_
      refine lv_aload_n hx hb dd_MO_copy_16 rfl (lv_at hl 0 rfl) ?_
      refine gf_MO_7 C0 hP ho_v0 dd_MO_copy_17 ?_
      refine lv_iload_n hx hb dd_MO_copy_20 rfl (lv_at hl 1 rfl) ?_
      refine lv_iload_n hx hb dd_MO_copy_21 rfl (lv_at hl 3 rfl) ?_
      refine lv_iadd hx hb dd_MO_copy_22 ?_
      obtain ⟨h_2, hf⟩ := of_ifb hf
      refine raI C0 hP (tp_6_0 ho_v0) h_2 dd_MO_copy_23 ?_
      obtain ⟨h_3, hf⟩ := of_ifb hf
      obtain ⟨x_4, hx_4, hf⟩ := of_st hf
      refine sI C0 hap hP hS (tp_6_0 ho_v0) h_3 hx_4 dd_MO_copy_24 (fun H locs hP hS => ?_)
      refine lv_iinc (v := v3 + 1) (lv' := [(3, .int (v3 + 1)), (0, .ref (ad v0)), (1, .int v1), (2, .int v2)]) hx hb dd_MO_copy_25 hl (k := 3) rfl rfl (by decide) rfl (fun ls hl => ?_)
      refine lv_goto (tgt := 2) hx hb dd_MO_copy_28 (by decide) ?_
      exact ih x_4 v0 v1 v2 (v3 + 1) ho_v0 hf _ _ _ hP hS (lv_sub hl [1, 2, 3, 0] rfl)
set_option maxHeartbeats 4000000 in
set_option maxRecDepth 100000 in
theorem ww_MO_copy {p : Program} {l : Launch} {e : Env} {s : State} {m : MethodId} {args : Array Value} {below : List Frame} {meth : Method} {c : Code} {E : Ev} {A : Nat → Prop} {ad : Nat → Nat} {r : Unit} {x' : St} (C0 : Cx E A RMO bb_MO_copy 4 (none) p s m args meth c) (hap : Ap ad ixM A)  {x : St} {v0 : Nat} {v1 : Int32} {v2 : Int32} (ho_v0 : isO ixM v0 6) (hf : ff_MO_copy x v0 v1 v2 = some (r, x')) {H : Heap} {locs : List Loc} {ls : Array Slot} (hP : Wd E ad ixM x H) (hS : va_S A s.heap H locs) (hl : lv_has ls 4 [(0, .ref (ad v0)), (1, .int v1), (2, .int v2)]) : W p l e rm_MO_copy s m args below meth c H locs 0 0 (MQ below (QX E ad ixM A (none) x') args s 0 0 A) (F0 m 0 ls []) := by
  obtain ⟨hx, hb, hml, hr, hown, hts, hlk, hK⟩ := id C0
  have hf : ff_MO_copy_2 FU x v0 v1 v2 0 = some (r, x') := hf
  refine lv_iconst (v := 0) hx hb dd_MO_copy_0 (by decide) ?_
  refine lv_istore_n (lv' := [(3, .int 0), (0, .ref (ad v0)), (1, .int v1), (2, .int v2)]) hx hb dd_MO_copy_1 rfl hl (by decide) rfl (fun ls hl => ?_)
  exact ww_MO_copy_2 C0 hap  FU x v0 v1 v2 0 ho_v0 hf _ _ _ hP hS (lv_sub hl [1, 2, 3, 0] rfl)
theorem cc_MO_copy {l : Launch} {E : Ev} {A : Nat → Prop} {ad : Nat → Nat} (hap : Ap ad ixM A) {x x' : St} {v0 : Nat} {v1 : Int32} {v2 : Int32} {r : Unit} (ho_v0 : isO ixM v0 6) (hf : ff_MO_copy x v0 v1 v2 = some (r, x')) : Met l yy_MO_copy (Cond.code yy_MO_copy bb_MO_copy 4 (none) :: gtb) rm_MO_copy (va_Pc [.ref (ad v0), .int v1, .int v2] (PB E A ad ixM x)) (QX E ad ixM A (none) x') 0 0 A := by
  exact enter (by decide) (Nat.le_of_ble_eq_true rfl) (fun p e s m below meth c ls C0 hP hS hl => ww_MO_copy C0 hap ho_v0 hf hP hS hl)
theorem cl_MO_60 {p : Program} {l : Launch} {e : Env} {R : Room} {s : State} {m : MethodId} {args : Array Value} {below : List Frame} {meth : Method} {c : Code} {H : Heap} {locs : List Loc} {cells slots : Nat} {Q : State → Prop} {cc : ByteArray} {pc : Nat} {ls : Array Slot} {rest : List Value} {E : Ev} {A : Nat → Prop} {ad : Nat → Nat} {nL : Nat} {rt : Option FieldType} (C0 : Cx E A RMO cc nL rt p s m args meth c) (hap : Ap ad ixM A) {x x' : St} {v0 : Nat} {v1 : Int32} {r : Int32} (ho_v0 : isO ixM v0 6) (hc : ff_MO_get x v0 v1 = some (r, x')) (hP : Wd E ad ixM x H) (hS : va_S A s.heap H locs) (hR : rm_MO_get.frames + 1 ≤ R.frames ∧ 8 + (2 + 11) + rm_MO_get.locals ≤ R.locals) (hls : ls.size = nL) (hroom : (rest.map fun v => v.category).sum ≤ 8) (hdg : decode cc pc = .ok (.invokevirtual 60, 3)) (hf : cells ≤ R.cells ∧ slots ≤ R.slots) (kk : ∀ H1 locs1, Wd E ad ixM x' H1 → va_S A s.heap H1 locs1 → W p l e R s m args below meth c H1 locs1 cells slots Q (F0 m (pc + 3) ls (.int r :: rest))) : W p l e R s m args below meth c H locs cells slots Q (F0 m pc ls (.int v1 :: .ref (ad v0) :: rest)) :=
  rcV (n := 1) C0 (cc_MO_get hap ho_v0 hc) hP hS ho_v0 vcl_6 (by decide) gw_code_MO_get gw_m_MO_60 gw_inst_MO_get gw_sel_MO_get gw_ini_MO rfl rfl (by decide +kernel) rfl hR hls rfl hroom hdg hf (fun H1 locs1 a _ _ b => kk H1 locs1 a b)
theorem cl_MO_64 {p : Program} {l : Launch} {e : Env} {R : Room} {s : State} {m : MethodId} {args : Array Value} {below : List Frame} {meth : Method} {c : Code} {H : Heap} {locs : List Loc} {cells slots : Nat} {Q : State → Prop} {cc : ByteArray} {pc : Nat} {ls : Array Slot} {rest : List Value} {E : Ev} {A : Nat → Prop} {ad : Nat → Nat} {nL : Nat} {rt : Option FieldType} (C0 : Cx E A RMO cc nL rt p s m args meth c) (hap : Ap ad ixM A) {x x' : St} {v0 : Int32} {v1 : Int32} {v2 : Int32} {r : Int32}  (hc : ff_MO_in x v0 v1 v2 = some (r, x')) (hP : Wd E ad ixM x H) (hS : va_S A s.heap H locs) (hR : rm_MO_in.frames + 1 ≤ R.frames ∧ 8 + (3 + 11) + rm_MO_in.locals ≤ R.locals) (hls : ls.size = nL) (hroom : (rest.map fun v => v.category).sum ≤ 8) (hdg : decode cc pc = .ok (.invokestatic 64, 3)) (hf : cells ≤ R.cells ∧ slots ≤ R.slots) (kk : ∀ H1 locs1, Wd E ad ixM x' H1 → va_S A s.heap H1 locs1 → W p l e R s m args below meth c H1 locs1 cells slots Q (F0 m (pc + 3) ls (.int r :: rest))) : W p l e R s m args below meth c H locs cells slots Q (F0 m pc ls (.int v2 :: .int v1 :: .int v0 :: rest)) :=
  rcS (n := 3) C0 (cc_MO_in hap  hc) hP hS gw_code_MO_in gw_m_MO_64 gw_static_MO_in gw_ini_MO rfl rfl (by decide +kernel) rfl hR hls rfl hroom hdg hf (fun H1 locs1 a _ _ b => kk H1 locs1 a b)
abbrev rm_MO_isMourner : Room := { frames := 1, cells := 0, slots := 0, locals := 22 }
theorem dd_MO_isMourner_0 : decode bb_MO_isMourner 0 = .ok (.iload_n 1, 1) := by decide +kernel
theorem dd_MO_isMourner_1 : decode bb_MO_isMourner 1 = .ok (.iconst 0, 1) := by decide +kernel
theorem dd_MO_isMourner_2 : decode bb_MO_isMourner 2 = .ok (.aload_n 0, 1) := by decide +kernel
theorem dd_MO_isMourner_3 : decode bb_MO_isMourner 3 = .ok (.iconst 0, 1) := by decide +kernel
theorem dd_MO_isMourner_4 : decode bb_MO_isMourner 4 = .ok (.invokevirtual 60, 3) := by decide +kernel
theorem dd_MO_isMourner_7 : decode bb_MO_isMourner 7 = .ok (.iconst 1, 1) := by decide +kernel
theorem dd_MO_isMourner_8 : decode bb_MO_isMourner 8 = .ok (.isub, 1) := by decide +kernel
theorem dd_MO_isMourner_9 : decode bb_MO_isMourner 9 = .ok (.invokestatic 64, 3) := by decide +kernel
theorem dd_MO_isMourner_12 : decode bb_MO_isMourner 12 = .ok (.ireturn, 1) := by decide +kernel
def ff_MO_isMourner  (x : St) (v0 : Nat) (v1 : Int32) : Option (Int32 × St) := bnd (ff_MO_get x v0 0) (fun r_1 x_2 => bnd (ff_MO_in x_2 v1 0 (r_1 - 1)) (fun r_4 x_5 => (if zb r_4 = true then some (r_4, x_5) else none)))
set_option maxHeartbeats 4000000 in
set_option maxRecDepth 100000 in
theorem ww_MO_isMourner {p : Program} {l : Launch} {e : Env} {s : State} {m : MethodId} {args : Array Value} {below : List Frame} {meth : Method} {c : Code} {E : Ev} {A : Nat → Prop} {ad : Nat → Nat} {r : Int32} {x' : St} (C0 : Cx E A RMO bb_MO_isMourner 2 (some .boolean) p s m args meth c) (hap : Ap ad ixM A)  {x : St} {v0 : Nat} {v1 : Int32} (ho_v0 : isO ixM v0 6) (hf : ff_MO_isMourner x v0 v1 = some (r, x')) {H : Heap} {locs : List Loc} {ls : Array Slot} (hP : Wd E ad ixM x H) (hS : va_S A s.heap H locs) (hl : lv_has ls 2 [(0, .ref (ad v0)), (1, .int v1)]) : W p l e rm_MO_isMourner s m args below meth c H locs 0 0 (MQ below (QX E ad ixM A (some (.int r)) x') args s 0 0 A) (F0 m 0 ls []) := by
  obtain ⟨hx, hb, hml, hr, hown, hts, hlk, hK⟩ := id C0
  have hf : bnd (ff_MO_get x v0 0) (fun r_1 x_2 => bnd (ff_MO_in x_2 v1 0 (r_1 - 1)) (fun r_4 x_5 => (if zb r_4 = true then some (r_4, x_5) else none))) = some (r, x') := hf
  refine lv_iload_n hx hb dd_MO_isMourner_0 rfl (lv_at hl 1 rfl) ?_
  refine lv_iconst (v := 0) hx hb dd_MO_isMourner_1 (by decide) ?_
  refine lv_aload_n hx hb dd_MO_isMourner_2 rfl (lv_at hl 0 rfl) ?_
  refine lv_iconst (v := 0) hx hb dd_MO_isMourner_3 (by decide) ?_
  obtain ⟨r_1, x_2, c_3, hf⟩ := of_bnd hf
  refine cl_MO_60 C0 hap ho_v0 c_3 hP hS ⟨Nat.le_of_ble_eq_true rfl, Nat.le_of_ble_eq_true rfl⟩ hl.1 (Nat.le_of_ble_eq_true rfl) dd_MO_isMourner_4 ⟨Nat.le_refl _, Nat.le_refl _⟩ (fun H locs hP hS => ?_)
  refine lv_iconst (v := 1) hx hb dd_MO_isMourner_7 (by decide) ?_
  refine lv_isub hx hb dd_MO_isMourner_8 ?_
  obtain ⟨r_4, x_5, c_6, hf⟩ := of_bnd hf
  refine cl_MO_64 C0 hap  c_6 hP hS ⟨Nat.le_of_ble_eq_true rfl, Nat.le_of_ble_eq_true rfl⟩ hl.1 (Nat.le_of_ble_eq_true rfl) dd_MO_isMourner_9 ⟨Nat.le_refl _, Nat.le_refl _⟩ (fun H locs hP hS => ?_)
  obtain ⟨h_7, hf⟩ := of_ifb hf
  exact rrZ C0 hP hS (zb_or h_7) dd_MO_isMourner_12 hf
theorem cc_MO_isMourner {l : Launch} {E : Ev} {A : Nat → Prop} {ad : Nat → Nat} (hap : Ap ad ixM A) {x x' : St} {v0 : Nat} {v1 : Int32} {r : Int32} (ho_v0 : isO ixM v0 6) (hf : ff_MO_isMourner x v0 v1 = some (r, x')) : Met l yy_MO_isMourner (Cond.code yy_MO_isMourner bb_MO_isMourner 2 (some .boolean) :: gtb) rm_MO_isMourner (va_Pc [.ref (ad v0), .int v1] (PB E A ad ixM x)) (QX E ad ixM A (some (.int r)) x') 0 0 A := by
  exact enter (by decide) (Nat.le_of_ble_eq_true rfl) (fun p e s m below meth c ls C0 hP hS hl => ww_MO_isMourner C0 hap ho_v0 hf hP hS hl)
abbrev rm_MO_isJoint : Room := { frames := 1, cells := 0, slots := 0, locals := 22 }
theorem dd_MO_isJoint_0 : decode bb_MO_isJoint 0 = .ok (.iload_n 1, 1) := by decide +kernel
theorem dd_MO_isJoint_1 : decode bb_MO_isJoint 1 = .ok (.iconst 0, 1) := by decide +kernel
theorem dd_MO_isJoint_2 : decode bb_MO_isJoint 2 = .ok (.aload_n 0, 1) := by decide +kernel
theorem dd_MO_isJoint_3 : decode bb_MO_isJoint 3 = .ok (.iconst 1, 1) := by decide +kernel
theorem dd_MO_isJoint_4 : decode bb_MO_isJoint 4 = .ok (.invokevirtual 60, 3) := by decide +kernel
theorem dd_MO_isJoint_7 : decode bb_MO_isJoint 7 = .ok (.iconst 1, 1) := by decide +kernel
theorem dd_MO_isJoint_8 : decode bb_MO_isJoint 8 = .ok (.isub, 1) := by decide +kernel
theorem dd_MO_isJoint_9 : decode bb_MO_isJoint 9 = .ok (.invokestatic 64, 3) := by decide +kernel
theorem dd_MO_isJoint_12 : decode bb_MO_isJoint 12 = .ok (.ireturn, 1) := by decide +kernel
def ff_MO_isJoint  (x : St) (v0 : Nat) (v1 : Int32) : Option (Int32 × St) := bnd (ff_MO_get x v0 1) (fun r_1 x_2 => bnd (ff_MO_in x_2 v1 0 (r_1 - 1)) (fun r_4 x_5 => (if zb r_4 = true then some (r_4, x_5) else none)))
set_option maxHeartbeats 4000000 in
set_option maxRecDepth 100000 in
theorem ww_MO_isJoint {p : Program} {l : Launch} {e : Env} {s : State} {m : MethodId} {args : Array Value} {below : List Frame} {meth : Method} {c : Code} {E : Ev} {A : Nat → Prop} {ad : Nat → Nat} {r : Int32} {x' : St} (C0 : Cx E A RMO bb_MO_isJoint 2 (some .boolean) p s m args meth c) (hap : Ap ad ixM A)  {x : St} {v0 : Nat} {v1 : Int32} (ho_v0 : isO ixM v0 6) (hf : ff_MO_isJoint x v0 v1 = some (r, x')) {H : Heap} {locs : List Loc} {ls : Array Slot} (hP : Wd E ad ixM x H) (hS : va_S A s.heap H locs) (hl : lv_has ls 2 [(0, .ref (ad v0)), (1, .int v1)]) : W p l e rm_MO_isJoint s m args below meth c H locs 0 0 (MQ below (QX E ad ixM A (some (.int r)) x') args s 0 0 A) (F0 m 0 ls []) := by
  obtain ⟨hx, hb, hml, hr, hown, hts, hlk, hK⟩ := id C0
  have hf : bnd (ff_MO_get x v0 1) (fun r_1 x_2 => bnd (ff_MO_in x_2 v1 0 (r_1 - 1)) (fun r_4 x_5 => (if zb r_4 = true then some (r_4, x_5) else none))) = some (r, x') := hf
  refine lv_iload_n hx hb dd_MO_isJoint_0 rfl (lv_at hl 1 rfl) ?_
  refine lv_iconst (v := 0) hx hb dd_MO_isJoint_1 (by decide) ?_
  refine lv_aload_n hx hb dd_MO_isJoint_2 rfl (lv_at hl 0 rfl) ?_
  refine lv_iconst (v := 1) hx hb dd_MO_isJoint_3 (by decide) ?_
  obtain ⟨r_1, x_2, c_3, hf⟩ := of_bnd hf
  refine cl_MO_60 C0 hap ho_v0 c_3 hP hS ⟨Nat.le_of_ble_eq_true rfl, Nat.le_of_ble_eq_true rfl⟩ hl.1 (Nat.le_of_ble_eq_true rfl) dd_MO_isJoint_4 ⟨Nat.le_refl _, Nat.le_refl _⟩ (fun H locs hP hS => ?_)
  refine lv_iconst (v := 1) hx hb dd_MO_isJoint_7 (by decide) ?_
  refine lv_isub hx hb dd_MO_isJoint_8 ?_
  obtain ⟨r_4, x_5, c_6, hf⟩ := of_bnd hf
  refine cl_MO_64 C0 hap  c_6 hP hS ⟨Nat.le_of_ble_eq_true rfl, Nat.le_of_ble_eq_true rfl⟩ hl.1 (Nat.le_of_ble_eq_true rfl) dd_MO_isJoint_9 ⟨Nat.le_refl _, Nat.le_refl _⟩ (fun H locs hP hS => ?_)
  obtain ⟨h_7, hf⟩ := of_ifb hf
  exact rrZ C0 hP hS (zb_or h_7) dd_MO_isJoint_12 hf
theorem cc_MO_isJoint {l : Launch} {E : Ev} {A : Nat → Prop} {ad : Nat → Nat} (hap : Ap ad ixM A) {x x' : St} {v0 : Nat} {v1 : Int32} {r : Int32} (ho_v0 : isO ixM v0 6) (hf : ff_MO_isJoint x v0 v1 = some (r, x')) : Met l yy_MO_isJoint (Cond.code yy_MO_isJoint bb_MO_isJoint 2 (some .boolean) :: gtb) rm_MO_isJoint (va_Pc [.ref (ad v0), .int v1] (PB E A ad ixM x)) (QX E ad ixM A (some (.int r)) x') 0 0 A := by
  exact enter (by decide) (Nat.le_of_ble_eq_true rfl) (fun p e s m below meth c ls C0 hP hS hl => ww_MO_isJoint C0 hap ho_v0 hf hP hS hl)
theorem cl_MO_68 {p : Program} {l : Launch} {e : Env} {R : Room} {s : State} {m : MethodId} {args : Array Value} {below : List Frame} {meth : Method} {c : Code} {H : Heap} {locs : List Loc} {cells slots : Nat} {Q : State → Prop} {cc : ByteArray} {pc : Nat} {ls : Array Slot} {rest : List Value} {E : Ev} {A : Nat → Prop} {ad : Nat → Nat} {nL : Nat} {rt : Option FieldType} (C0 : Cx E A RMO cc nL rt p s m args meth c) (hap : Ap ad ixM A) {x x' : St} {v0 : Nat} {v1 : Int32} {v2 : Int32} {r : Unit} (ho_v0 : isO ixM v0 6) (hc : ff_MO_set x v0 v1 v2 = some (r, x')) (hP : Wd E ad ixM x H) (hS : va_S A s.heap H locs) (hR : rm_MO_set.frames + 1 ≤ R.frames ∧ 8 + (3 + 11) + rm_MO_set.locals ≤ R.locals) (hls : ls.size = nL) (hroom : (rest.map fun v => v.category).sum ≤ 8) (hdg : decode cc pc = .ok (.invokevirtual 68, 3)) (hf : cells ≤ R.cells ∧ slots ≤ R.slots) (kk : ∀ H1 locs1, Wd E ad ixM x' H1 → va_S A s.heap H1 locs1 → W p l e R s m args below meth c H1 locs1 cells slots Q (F0 m (pc + 3) ls (rest))) : W p l e R s m args below meth c H locs cells slots Q (F0 m pc ls (.int v2 :: .int v1 :: .ref (ad v0) :: rest)) :=
  rcV (n := 2) C0 (cc_MO_set hap ho_v0 hc) hP hS ho_v0 vcl_6 (by decide) gw_code_MO_set gw_m_MO_68 gw_inst_MO_set gw_sel_MO_set gw_ini_MO rfl rfl (by decide +kernel) rfl hR hls rfl hroom hdg hf (fun H1 locs1 a _ _ b => kk H1 locs1 a b)
abbrev rm_MO_addMourner : Room := { frames := 1, cells := 0, slots := 0, locals := 22 }
theorem dd_MO_addMourner_0 : decode bb_MO_addMourner 0 = .ok (.bipush 7, 2) := by decide +kernel
theorem dd_MO_addMourner_2 : decode bb_MO_addMourner 2 = .ok (.iconst 3, 1) := by decide +kernel
theorem dd_MO_addMourner_3 : decode bb_MO_addMourner 3 = .ok (.aload_n 0, 1) := by decide +kernel
theorem dd_MO_addMourner_4 : decode bb_MO_addMourner 4 = .ok (.iconst 0, 1) := by decide +kernel
theorem dd_MO_addMourner_5 : decode bb_MO_addMourner 5 = .ok (.invokevirtual 60, 3) := by decide +kernel
theorem dd_MO_addMourner_8 : decode bb_MO_addMourner 8 = .ok (.imul, 1) := by decide +kernel
theorem dd_MO_addMourner_9 : decode bb_MO_addMourner 9 = .ok (.iadd, 1) := by decide +kernel
theorem dd_MO_addMourner_10 : decode bb_MO_addMourner 10 = .ok (.istore 4, 2) := by decide +kernel
theorem dd_MO_addMourner_12 : decode bb_MO_addMourner 12 = .ok (.aload_n 0, 1) := by decide +kernel
theorem dd_MO_addMourner_13 : decode bb_MO_addMourner 13 = .ok (.iload 4, 2) := by decide +kernel
theorem dd_MO_addMourner_15 : decode bb_MO_addMourner 15 = .ok (.iload_n 1, 1) := by decide +kernel
theorem dd_MO_addMourner_16 : decode bb_MO_addMourner 16 = .ok (.invokevirtual 68, 3) := by decide +kernel
theorem dd_MO_addMourner_19 : decode bb_MO_addMourner 19 = .ok (.aload_n 0, 1) := by decide +kernel
theorem dd_MO_addMourner_20 : decode bb_MO_addMourner 20 = .ok (.iload 4, 2) := by decide +kernel
theorem dd_MO_addMourner_22 : decode bb_MO_addMourner 22 = .ok (.iconst 1, 1) := by decide +kernel
theorem dd_MO_addMourner_23 : decode bb_MO_addMourner 23 = .ok (.iadd, 1) := by decide +kernel
theorem dd_MO_addMourner_24 : decode bb_MO_addMourner 24 = .ok (.iload_n 2, 1) := by decide +kernel
theorem dd_MO_addMourner_25 : decode bb_MO_addMourner 25 = .ok (.invokevirtual 68, 3) := by decide +kernel
theorem dd_MO_addMourner_28 : decode bb_MO_addMourner 28 = .ok (.aload_n 0, 1) := by decide +kernel
theorem dd_MO_addMourner_29 : decode bb_MO_addMourner 29 = .ok (.iload 4, 2) := by decide +kernel
theorem dd_MO_addMourner_31 : decode bb_MO_addMourner 31 = .ok (.iconst 2, 1) := by decide +kernel
theorem dd_MO_addMourner_32 : decode bb_MO_addMourner 32 = .ok (.iadd, 1) := by decide +kernel
theorem dd_MO_addMourner_33 : decode bb_MO_addMourner 33 = .ok (.iload_n 3, 1) := by decide +kernel
theorem dd_MO_addMourner_34 : decode bb_MO_addMourner 34 = .ok (.invokevirtual 68, 3) := by decide +kernel
theorem dd_MO_addMourner_37 : decode bb_MO_addMourner 37 = .ok (.aload_n 0, 1) := by decide +kernel
theorem dd_MO_addMourner_38 : decode bb_MO_addMourner 38 = .ok (.iconst 0, 1) := by decide +kernel
theorem dd_MO_addMourner_39 : decode bb_MO_addMourner 39 = .ok (.aload_n 0, 1) := by decide +kernel
theorem dd_MO_addMourner_40 : decode bb_MO_addMourner 40 = .ok (.iconst 0, 1) := by decide +kernel
theorem dd_MO_addMourner_41 : decode bb_MO_addMourner 41 = .ok (.invokevirtual 60, 3) := by decide +kernel
theorem dd_MO_addMourner_44 : decode bb_MO_addMourner 44 = .ok (.iconst 1, 1) := by decide +kernel
theorem dd_MO_addMourner_45 : decode bb_MO_addMourner 45 = .ok (.iadd, 1) := by decide +kernel
theorem dd_MO_addMourner_46 : decode bb_MO_addMourner 46 = .ok (.invokevirtual 68, 3) := by decide +kernel
theorem dd_MO_addMourner_49 : decode bb_MO_addMourner 49 = .ok (.return_, 1) := by decide +kernel
def ff_MO_addMourner  (x : St) (v0 : Nat) (v1 : Int32) (v2 : Int32) (v3 : Int32) : Option (Unit × St) := bnd (ff_MO_get x v0 0) (fun r_1 x_2 => bnd (ff_MO_set x_2 v0 (7 + (3 * r_1)) v1) (fun _ x_5 => bnd (ff_MO_set x_5 v0 ((7 + (3 * r_1)) + 1) v2) (fun _ x_8 => bnd (ff_MO_set x_8 v0 ((7 + (3 * r_1)) + 2) v3) (fun _ x_11 => bnd (ff_MO_get x_11 v0 0) (fun r_13 x_14 => bnd (ff_MO_set x_14 v0 0 (r_13 + 1)) (fun _ x_17 => some ((), x_17)))))))
set_option maxHeartbeats 4000000 in
set_option maxRecDepth 100000 in
theorem ww_MO_addMourner {p : Program} {l : Launch} {e : Env} {s : State} {m : MethodId} {args : Array Value} {below : List Frame} {meth : Method} {c : Code} {E : Ev} {A : Nat → Prop} {ad : Nat → Nat} {r : Unit} {x' : St} (C0 : Cx E A RMO bb_MO_addMourner 5 (none) p s m args meth c) (hap : Ap ad ixM A)  {x : St} {v0 : Nat} {v1 : Int32} {v2 : Int32} {v3 : Int32} (ho_v0 : isO ixM v0 6) (hf : ff_MO_addMourner x v0 v1 v2 v3 = some (r, x')) {H : Heap} {locs : List Loc} {ls : Array Slot} (hP : Wd E ad ixM x H) (hS : va_S A s.heap H locs) (hl : lv_has ls 5 [(0, .ref (ad v0)), (1, .int v1), (2, .int v2), (3, .int v3)]) : W p l e rm_MO_addMourner s m args below meth c H locs 0 0 (MQ below (QX E ad ixM A (none) x') args s 0 0 A) (F0 m 0 ls []) := by
  obtain ⟨hx, hb, hml, hr, hown, hts, hlk, hK⟩ := id C0
  have hf : bnd (ff_MO_get x v0 0) (fun r_1 x_2 => bnd (ff_MO_set x_2 v0 (7 + (3 * r_1)) v1) (fun _ x_5 => bnd (ff_MO_set x_5 v0 ((7 + (3 * r_1)) + 1) v2) (fun _ x_8 => bnd (ff_MO_set x_8 v0 ((7 + (3 * r_1)) + 2) v3) (fun _ x_11 => bnd (ff_MO_get x_11 v0 0) (fun r_13 x_14 => bnd (ff_MO_set x_14 v0 0 (r_13 + 1)) (fun _ x_17 => some ((), x_17))))))) = some (r, x') := hf
  refine lv_bipush (v := 7) hx hb dd_MO_addMourner_0 (by decide) ?_
  refine lv_iconst (v := 3) hx hb dd_MO_addMourner_2 (by decide) ?_
  refine lv_aload_n hx hb dd_MO_addMourner_3 rfl (lv_at hl 0 rfl) ?_
  refine lv_iconst (v := 0) hx hb dd_MO_addMourner_4 (by decide) ?_
  obtain ⟨r_1, x_2, c_3, hf⟩ := of_bnd hf
  refine cl_MO_60 C0 hap ho_v0 c_3 hP hS ⟨Nat.le_of_ble_eq_true rfl, Nat.le_of_ble_eq_true rfl⟩ hl.1 (Nat.le_of_ble_eq_true rfl) dd_MO_addMourner_5 ⟨Nat.le_refl _, Nat.le_refl _⟩ (fun H locs hP hS => ?_)
  refine lv_imul hx hb dd_MO_addMourner_8 ?_
  refine lv_iadd hx hb dd_MO_addMourner_9 ?_
  refine lv_istore (lv' := [(4, .int (7 + (3 * r_1))), (0, .ref (ad v0)), (1, .int v1), (2, .int v2), (3, .int v3)]) hx hb dd_MO_addMourner_10 hl (by decide) rfl (fun ls hl => ?_)
  refine lv_aload_n hx hb dd_MO_addMourner_12 rfl (lv_at hl 1 rfl) ?_
  refine lv_iload hx hb dd_MO_addMourner_13 (lv_at hl 0 rfl) ?_
  refine lv_iload_n hx hb dd_MO_addMourner_15 rfl (lv_at hl 2 rfl) ?_
  obtain ⟨_, x_5, c_6, hf⟩ := of_bnd hf
  refine cl_MO_68 C0 hap ho_v0 c_6 hP hS ⟨Nat.le_of_ble_eq_true rfl, Nat.le_of_ble_eq_true rfl⟩ hl.1 (Nat.le_of_ble_eq_true rfl) dd_MO_addMourner_16 ⟨Nat.le_refl _, Nat.le_refl _⟩ (fun H locs hP hS => ?_)
  refine lv_aload_n hx hb dd_MO_addMourner_19 rfl (lv_at hl 1 rfl) ?_
  refine lv_iload hx hb dd_MO_addMourner_20 (lv_at hl 0 rfl) ?_
  refine lv_iconst (v := 1) hx hb dd_MO_addMourner_22 (by decide) ?_
  refine lv_iadd hx hb dd_MO_addMourner_23 ?_
  refine lv_iload_n hx hb dd_MO_addMourner_24 rfl (lv_at hl 3 rfl) ?_
  obtain ⟨_, x_8, c_9, hf⟩ := of_bnd hf
  refine cl_MO_68 C0 hap ho_v0 c_9 hP hS ⟨Nat.le_of_ble_eq_true rfl, Nat.le_of_ble_eq_true rfl⟩ hl.1 (Nat.le_of_ble_eq_true rfl) dd_MO_addMourner_25 ⟨Nat.le_refl _, Nat.le_refl _⟩ (fun H locs hP hS => ?_)
  refine lv_aload_n hx hb dd_MO_addMourner_28 rfl (lv_at hl 1 rfl) ?_
  refine lv_iload hx hb dd_MO_addMourner_29 (lv_at hl 0 rfl) ?_
  refine lv_iconst (v := 2) hx hb dd_MO_addMourner_31 (by decide) ?_
  refine lv_iadd hx hb dd_MO_addMourner_32 ?_
  refine lv_iload_n hx hb dd_MO_addMourner_33 rfl (lv_at hl 4 rfl) ?_
  obtain ⟨_, x_11, c_12, hf⟩ := of_bnd hf
  refine cl_MO_68 C0 hap ho_v0 c_12 hP hS ⟨Nat.le_of_ble_eq_true rfl, Nat.le_of_ble_eq_true rfl⟩ hl.1 (Nat.le_of_ble_eq_true rfl) dd_MO_addMourner_34 ⟨Nat.le_refl _, Nat.le_refl _⟩ (fun H locs hP hS => ?_)
  refine lv_aload_n hx hb dd_MO_addMourner_37 rfl (lv_at hl 1 rfl) ?_
  refine lv_iconst (v := 0) hx hb dd_MO_addMourner_38 (by decide) ?_
  refine lv_aload_n hx hb dd_MO_addMourner_39 rfl (lv_at hl 1 rfl) ?_
  refine lv_iconst (v := 0) hx hb dd_MO_addMourner_40 (by decide) ?_
  obtain ⟨r_13, x_14, c_15, hf⟩ := of_bnd hf
  refine cl_MO_60 C0 hap ho_v0 c_15 hP hS ⟨Nat.le_of_ble_eq_true rfl, Nat.le_of_ble_eq_true rfl⟩ hl.1 (Nat.le_of_ble_eq_true rfl) dd_MO_addMourner_41 ⟨Nat.le_refl _, Nat.le_refl _⟩ (fun H locs hP hS => ?_)
  refine lv_iconst (v := 1) hx hb dd_MO_addMourner_44 (by decide) ?_
  refine lv_iadd hx hb dd_MO_addMourner_45 ?_
  obtain ⟨_, x_17, c_18, hf⟩ := of_bnd hf
  refine cl_MO_68 C0 hap ho_v0 c_18 hP hS ⟨Nat.le_of_ble_eq_true rfl, Nat.le_of_ble_eq_true rfl⟩ hl.1 (Nat.le_of_ble_eq_true rfl) dd_MO_addMourner_46 ⟨Nat.le_refl _, Nat.le_refl _⟩ (fun H locs hP hS => ?_)
  exact rrV C0 hP hS dd_MO_addMourner_49 hf
theorem cc_MO_addMourner {l : Launch} {E : Ev} {A : Nat → Prop} {ad : Nat → Nat} (hap : Ap ad ixM A) {x x' : St} {v0 : Nat} {v1 : Int32} {v2 : Int32} {v3 : Int32} {r : Unit} (ho_v0 : isO ixM v0 6) (hf : ff_MO_addMourner x v0 v1 v2 v3 = some (r, x')) : Met l yy_MO_addMourner (Cond.code yy_MO_addMourner bb_MO_addMourner 5 (none) :: gtb) rm_MO_addMourner (va_Pc [.ref (ad v0), .int v1, .int v2, .int v3] (PB E A ad ixM x)) (QX E ad ixM A (none) x') 0 0 A := by
  exact enter (by decide) (Nat.le_of_ble_eq_true rfl) (fun p e s m below meth c ls C0 hP hS hl => ww_MO_addMourner C0 hap ho_v0 hf hP hS hl)
abbrev rm_MO_addJoint : Room := { frames := 1, cells := 0, slots := 0, locals := 22 }
theorem dd_MO_addJoint_0 : decode bb_MO_addJoint 0 = .ok (.bipush 25, 2) := by decide +kernel
theorem dd_MO_addJoint_2 : decode bb_MO_addJoint 2 = .ok (.iconst 4, 1) := by decide +kernel
theorem dd_MO_addJoint_3 : decode bb_MO_addJoint 3 = .ok (.aload_n 0, 1) := by decide +kernel
theorem dd_MO_addJoint_4 : decode bb_MO_addJoint 4 = .ok (.iconst 1, 1) := by decide +kernel
theorem dd_MO_addJoint_5 : decode bb_MO_addJoint 5 = .ok (.invokevirtual 60, 3) := by decide +kernel
theorem dd_MO_addJoint_8 : decode bb_MO_addJoint 8 = .ok (.imul, 1) := by decide +kernel
theorem dd_MO_addJoint_9 : decode bb_MO_addJoint 9 = .ok (.iadd, 1) := by decide +kernel
theorem dd_MO_addJoint_10 : decode bb_MO_addJoint 10 = .ok (.istore_n 2, 1) := by decide +kernel
theorem dd_MO_addJoint_11 : decode bb_MO_addJoint 11 = .ok (.aload_n 0, 1) := by decide +kernel
theorem dd_MO_addJoint_12 : decode bb_MO_addJoint 12 = .ok (.iload_n 2, 1) := by decide +kernel
theorem dd_MO_addJoint_13 : decode bb_MO_addJoint 13 = .ok (.iload_n 1, 1) := by decide +kernel
theorem dd_MO_addJoint_14 : decode bb_MO_addJoint 14 = .ok (.invokevirtual 68, 3) := by decide +kernel
theorem dd_MO_addJoint_17 : decode bb_MO_addJoint 17 = .ok (.aload_n 0, 1) := by decide +kernel
theorem dd_MO_addJoint_18 : decode bb_MO_addJoint 18 = .ok (.iload_n 2, 1) := by decide +kernel
theorem dd_MO_addJoint_19 : decode bb_MO_addJoint 19 = .ok (.iconst 1, 1) := by decide +kernel
theorem dd_MO_addJoint_20 : decode bb_MO_addJoint 20 = .ok (.iadd, 1) := by decide +kernel
theorem dd_MO_addJoint_21 : decode bb_MO_addJoint 21 = .ok (.iconst (-1), 1) := by decide +kernel
theorem dd_MO_addJoint_22 : decode bb_MO_addJoint 22 = .ok (.invokevirtual 68, 3) := by decide +kernel
theorem dd_MO_addJoint_25 : decode bb_MO_addJoint 25 = .ok (.aload_n 0, 1) := by decide +kernel
theorem dd_MO_addJoint_26 : decode bb_MO_addJoint 26 = .ok (.iload_n 2, 1) := by decide +kernel
theorem dd_MO_addJoint_27 : decode bb_MO_addJoint 27 = .ok (.iconst 2, 1) := by decide +kernel
theorem dd_MO_addJoint_28 : decode bb_MO_addJoint 28 = .ok (.iadd, 1) := by decide +kernel
theorem dd_MO_addJoint_29 : decode bb_MO_addJoint 29 = .ok (.iconst (-1), 1) := by decide +kernel
theorem dd_MO_addJoint_30 : decode bb_MO_addJoint 30 = .ok (.invokevirtual 68, 3) := by decide +kernel
theorem dd_MO_addJoint_33 : decode bb_MO_addJoint 33 = .ok (.aload_n 0, 1) := by decide +kernel
theorem dd_MO_addJoint_34 : decode bb_MO_addJoint 34 = .ok (.iload_n 2, 1) := by decide +kernel
theorem dd_MO_addJoint_35 : decode bb_MO_addJoint 35 = .ok (.iconst 3, 1) := by decide +kernel
theorem dd_MO_addJoint_36 : decode bb_MO_addJoint 36 = .ok (.iadd, 1) := by decide +kernel
theorem dd_MO_addJoint_37 : decode bb_MO_addJoint 37 = .ok (.iconst (-1), 1) := by decide +kernel
theorem dd_MO_addJoint_38 : decode bb_MO_addJoint 38 = .ok (.invokevirtual 68, 3) := by decide +kernel
theorem dd_MO_addJoint_41 : decode bb_MO_addJoint 41 = .ok (.aload_n 0, 1) := by decide +kernel
theorem dd_MO_addJoint_42 : decode bb_MO_addJoint 42 = .ok (.iconst 1, 1) := by decide +kernel
theorem dd_MO_addJoint_43 : decode bb_MO_addJoint 43 = .ok (.aload_n 0, 1) := by decide +kernel
theorem dd_MO_addJoint_44 : decode bb_MO_addJoint 44 = .ok (.iconst 1, 1) := by decide +kernel
theorem dd_MO_addJoint_45 : decode bb_MO_addJoint 45 = .ok (.invokevirtual 60, 3) := by decide +kernel
theorem dd_MO_addJoint_48 : decode bb_MO_addJoint 48 = .ok (.iconst 1, 1) := by decide +kernel
theorem dd_MO_addJoint_49 : decode bb_MO_addJoint 49 = .ok (.iadd, 1) := by decide +kernel
theorem dd_MO_addJoint_50 : decode bb_MO_addJoint 50 = .ok (.invokevirtual 68, 3) := by decide +kernel
theorem dd_MO_addJoint_53 : decode bb_MO_addJoint 53 = .ok (.return_, 1) := by decide +kernel
def ff_MO_addJoint  (x : St) (v0 : Nat) (v1 : Int32) : Option (Unit × St) := bnd (ff_MO_get x v0 1) (fun r_1 x_2 => bnd (ff_MO_set x_2 v0 (25 + (4 * r_1)) v1) (fun _ x_5 => bnd (ff_MO_set x_5 v0 ((25 + (4 * r_1)) + 1) (-1)) (fun _ x_8 => bnd (ff_MO_set x_8 v0 ((25 + (4 * r_1)) + 2) (-1)) (fun _ x_11 => bnd (ff_MO_set x_11 v0 ((25 + (4 * r_1)) + 3) (-1)) (fun _ x_14 => bnd (ff_MO_get x_14 v0 1) (fun r_16 x_17 => bnd (ff_MO_set x_17 v0 1 (r_16 + 1)) (fun _ x_20 => some ((), x_20))))))))
set_option maxHeartbeats 4000000 in
set_option maxRecDepth 100000 in
theorem ww_MO_addJoint {p : Program} {l : Launch} {e : Env} {s : State} {m : MethodId} {args : Array Value} {below : List Frame} {meth : Method} {c : Code} {E : Ev} {A : Nat → Prop} {ad : Nat → Nat} {r : Unit} {x' : St} (C0 : Cx E A RMO bb_MO_addJoint 3 (none) p s m args meth c) (hap : Ap ad ixM A)  {x : St} {v0 : Nat} {v1 : Int32} (ho_v0 : isO ixM v0 6) (hf : ff_MO_addJoint x v0 v1 = some (r, x')) {H : Heap} {locs : List Loc} {ls : Array Slot} (hP : Wd E ad ixM x H) (hS : va_S A s.heap H locs) (hl : lv_has ls 3 [(0, .ref (ad v0)), (1, .int v1)]) : W p l e rm_MO_addJoint s m args below meth c H locs 0 0 (MQ below (QX E ad ixM A (none) x') args s 0 0 A) (F0 m 0 ls []) := by
  obtain ⟨hx, hb, hml, hr, hown, hts, hlk, hK⟩ := id C0
  have hf : bnd (ff_MO_get x v0 1) (fun r_1 x_2 => bnd (ff_MO_set x_2 v0 (25 + (4 * r_1)) v1) (fun _ x_5 => bnd (ff_MO_set x_5 v0 ((25 + (4 * r_1)) + 1) (-1)) (fun _ x_8 => bnd (ff_MO_set x_8 v0 ((25 + (4 * r_1)) + 2) (-1)) (fun _ x_11 => bnd (ff_MO_set x_11 v0 ((25 + (4 * r_1)) + 3) (-1)) (fun _ x_14 => bnd (ff_MO_get x_14 v0 1) (fun r_16 x_17 => bnd (ff_MO_set x_17 v0 1 (r_16 + 1)) (fun _ x_20 => some ((), x_20)))))))) = some (r, x') := hf
  refine lv_bipush (v := 25) hx hb dd_MO_addJoint_0 (by decide) ?_
  refine lv_iconst (v := 4) hx hb dd_MO_addJoint_2 (by decide) ?_
  refine lv_aload_n hx hb dd_MO_addJoint_3 rfl (lv_at hl 0 rfl) ?_
  refine lv_iconst (v := 1) hx hb dd_MO_addJoint_4 (by decide) ?_
  obtain ⟨r_1, x_2, c_3, hf⟩ := of_bnd hf
  refine cl_MO_60 C0 hap ho_v0 c_3 hP hS ⟨Nat.le_of_ble_eq_true rfl, Nat.le_of_ble_eq_true rfl⟩ hl.1 (Nat.le_of_ble_eq_true rfl) dd_MO_addJoint_5 ⟨Nat.le_refl _, Nat.le_refl _⟩ (fun H locs hP hS => ?_)
  refine lv_imul hx hb dd_MO_addJoint_8 ?_
  refine lv_iadd hx hb dd_MO_addJoint_9 ?_
  refine lv_istore_n (lv' := [(2, .int (25 + (4 * r_1))), (0, .ref (ad v0)), (1, .int v1)]) hx hb dd_MO_addJoint_10 rfl hl (by decide) rfl (fun ls hl => ?_)
  refine lv_aload_n hx hb dd_MO_addJoint_11 rfl (lv_at hl 1 rfl) ?_
  refine lv_iload_n hx hb dd_MO_addJoint_12 rfl (lv_at hl 0 rfl) ?_
  refine lv_iload_n hx hb dd_MO_addJoint_13 rfl (lv_at hl 2 rfl) ?_
  obtain ⟨_, x_5, c_6, hf⟩ := of_bnd hf
  refine cl_MO_68 C0 hap ho_v0 c_6 hP hS ⟨Nat.le_of_ble_eq_true rfl, Nat.le_of_ble_eq_true rfl⟩ hl.1 (Nat.le_of_ble_eq_true rfl) dd_MO_addJoint_14 ⟨Nat.le_refl _, Nat.le_refl _⟩ (fun H locs hP hS => ?_)
  refine lv_aload_n hx hb dd_MO_addJoint_17 rfl (lv_at hl 1 rfl) ?_
  refine lv_iload_n hx hb dd_MO_addJoint_18 rfl (lv_at hl 0 rfl) ?_
  refine lv_iconst (v := 1) hx hb dd_MO_addJoint_19 (by decide) ?_
  refine lv_iadd hx hb dd_MO_addJoint_20 ?_
  refine lv_iconst (v := -1) hx hb dd_MO_addJoint_21 (by decide) ?_
  obtain ⟨_, x_8, c_9, hf⟩ := of_bnd hf
  refine cl_MO_68 C0 hap ho_v0 c_9 hP hS ⟨Nat.le_of_ble_eq_true rfl, Nat.le_of_ble_eq_true rfl⟩ hl.1 (Nat.le_of_ble_eq_true rfl) dd_MO_addJoint_22 ⟨Nat.le_refl _, Nat.le_refl _⟩ (fun H locs hP hS => ?_)
  refine lv_aload_n hx hb dd_MO_addJoint_25 rfl (lv_at hl 1 rfl) ?_
  refine lv_iload_n hx hb dd_MO_addJoint_26 rfl (lv_at hl 0 rfl) ?_
  refine lv_iconst (v := 2) hx hb dd_MO_addJoint_27 (by decide) ?_
  refine lv_iadd hx hb dd_MO_addJoint_28 ?_
  refine lv_iconst (v := -1) hx hb dd_MO_addJoint_29 (by decide) ?_
  obtain ⟨_, x_11, c_12, hf⟩ := of_bnd hf
  refine cl_MO_68 C0 hap ho_v0 c_12 hP hS ⟨Nat.le_of_ble_eq_true rfl, Nat.le_of_ble_eq_true rfl⟩ hl.1 (Nat.le_of_ble_eq_true rfl) dd_MO_addJoint_30 ⟨Nat.le_refl _, Nat.le_refl _⟩ (fun H locs hP hS => ?_)
  refine lv_aload_n hx hb dd_MO_addJoint_33 rfl (lv_at hl 1 rfl) ?_
  refine lv_iload_n hx hb dd_MO_addJoint_34 rfl (lv_at hl 0 rfl) ?_
  refine lv_iconst (v := 3) hx hb dd_MO_addJoint_35 (by decide) ?_
  refine lv_iadd hx hb dd_MO_addJoint_36 ?_
  refine lv_iconst (v := -1) hx hb dd_MO_addJoint_37 (by decide) ?_
  obtain ⟨_, x_14, c_15, hf⟩ := of_bnd hf
  refine cl_MO_68 C0 hap ho_v0 c_15 hP hS ⟨Nat.le_of_ble_eq_true rfl, Nat.le_of_ble_eq_true rfl⟩ hl.1 (Nat.le_of_ble_eq_true rfl) dd_MO_addJoint_38 ⟨Nat.le_refl _, Nat.le_refl _⟩ (fun H locs hP hS => ?_)
  refine lv_aload_n hx hb dd_MO_addJoint_41 rfl (lv_at hl 1 rfl) ?_
  refine lv_iconst (v := 1) hx hb dd_MO_addJoint_42 (by decide) ?_
  refine lv_aload_n hx hb dd_MO_addJoint_43 rfl (lv_at hl 1 rfl) ?_
  refine lv_iconst (v := 1) hx hb dd_MO_addJoint_44 (by decide) ?_
  obtain ⟨r_16, x_17, c_18, hf⟩ := of_bnd hf
  refine cl_MO_60 C0 hap ho_v0 c_18 hP hS ⟨Nat.le_of_ble_eq_true rfl, Nat.le_of_ble_eq_true rfl⟩ hl.1 (Nat.le_of_ble_eq_true rfl) dd_MO_addJoint_45 ⟨Nat.le_refl _, Nat.le_refl _⟩ (fun H locs hP hS => ?_)
  refine lv_iconst (v := 1) hx hb dd_MO_addJoint_48 (by decide) ?_
  refine lv_iadd hx hb dd_MO_addJoint_49 ?_
  obtain ⟨_, x_20, c_21, hf⟩ := of_bnd hf
  refine cl_MO_68 C0 hap ho_v0 c_21 hP hS ⟨Nat.le_of_ble_eq_true rfl, Nat.le_of_ble_eq_true rfl⟩ hl.1 (Nat.le_of_ble_eq_true rfl) dd_MO_addJoint_50 ⟨Nat.le_refl _, Nat.le_refl _⟩ (fun H locs hP hS => ?_)
  exact rrV C0 hP hS dd_MO_addJoint_53 hf
theorem cc_MO_addJoint {l : Launch} {E : Ev} {A : Nat → Prop} {ad : Nat → Nat} (hap : Ap ad ixM A) {x x' : St} {v0 : Nat} {v1 : Int32} {r : Unit} (ho_v0 : isO ixM v0 6) (hf : ff_MO_addJoint x v0 v1 = some (r, x')) : Met l yy_MO_addJoint (Cond.code yy_MO_addJoint bb_MO_addJoint 3 (none) :: gtb) rm_MO_addJoint (va_Pc [.ref (ad v0), .int v1] (PB E A ad ixM x)) (QX E ad ixM A (none) x') 0 0 A := by
  exact enter (by decide) (Nat.le_of_ble_eq_true rfl) (fun p e s m below meth c ls C0 hP hS hl => ww_MO_addJoint C0 hap ho_v0 hf hP hS hl)
abbrev rm_MO_isSet : Room := { frames := 1, cells := 0, slots := 0, locals := 22 }
theorem dd_MO_isSet_0 : decode bb_MO_isSet 0 = .ok (.iload_n 1, 1) := by decide +kernel
theorem dd_MO_isSet_1 : decode bb_MO_isSet 1 = .ok (.iconst 1, 1) := by decide +kernel
theorem dd_MO_isSet_2 : decode bb_MO_isSet 2 = .ok (.iconst 1, 1) := by decide +kernel
theorem dd_MO_isSet_3 : decode bb_MO_isSet 3 = .ok (.aload_n 0, 1) := by decide +kernel
theorem dd_MO_isSet_4 : decode bb_MO_isSet 4 = .ok (.iconst 1, 1) := by decide +kernel
theorem dd_MO_isSet_5 : decode bb_MO_isSet 5 = .ok (.invokevirtual 60, 3) := by decide +kernel
theorem dd_MO_isSet_8 : decode bb_MO_isSet 8 = .ok (.ishl, 1) := by decide +kernel
theorem dd_MO_isSet_9 : decode bb_MO_isSet 9 = .ok (.iconst 1, 1) := by decide +kernel
theorem dd_MO_isSet_10 : decode bb_MO_isSet 10 = .ok (.isub, 1) := by decide +kernel
theorem dd_MO_isSet_11 : decode bb_MO_isSet 11 = .ok (.invokestatic 64, 3) := by decide +kernel
theorem dd_MO_isSet_14 : decode bb_MO_isSet 14 = .ok (.ireturn, 1) := by decide +kernel
def ff_MO_isSet  (x : St) (v0 : Nat) (v1 : Int32) : Option (Int32 × St) := bnd (ff_MO_get x v0 1) (fun r_1 x_2 => bnd (ff_MO_in x_2 v1 1 ((1 <<< (r_1 &&& 31)) - 1)) (fun r_4 x_5 => (if zb r_4 = true then some (r_4, x_5) else none)))
set_option maxHeartbeats 4000000 in
set_option maxRecDepth 100000 in
theorem ww_MO_isSet {p : Program} {l : Launch} {e : Env} {s : State} {m : MethodId} {args : Array Value} {below : List Frame} {meth : Method} {c : Code} {E : Ev} {A : Nat → Prop} {ad : Nat → Nat} {r : Int32} {x' : St} (C0 : Cx E A RMO bb_MO_isSet 2 (some .boolean) p s m args meth c) (hap : Ap ad ixM A)  {x : St} {v0 : Nat} {v1 : Int32} (ho_v0 : isO ixM v0 6) (hf : ff_MO_isSet x v0 v1 = some (r, x')) {H : Heap} {locs : List Loc} {ls : Array Slot} (hP : Wd E ad ixM x H) (hS : va_S A s.heap H locs) (hl : lv_has ls 2 [(0, .ref (ad v0)), (1, .int v1)]) : W p l e rm_MO_isSet s m args below meth c H locs 0 0 (MQ below (QX E ad ixM A (some (.int r)) x') args s 0 0 A) (F0 m 0 ls []) := by
  obtain ⟨hx, hb, hml, hr, hown, hts, hlk, hK⟩ := id C0
  have hf : bnd (ff_MO_get x v0 1) (fun r_1 x_2 => bnd (ff_MO_in x_2 v1 1 ((1 <<< (r_1 &&& 31)) - 1)) (fun r_4 x_5 => (if zb r_4 = true then some (r_4, x_5) else none))) = some (r, x') := hf
  refine lv_iload_n hx hb dd_MO_isSet_0 rfl (lv_at hl 1 rfl) ?_
  refine lv_iconst (v := 1) hx hb dd_MO_isSet_1 (by decide) ?_
  refine lv_iconst (v := 1) hx hb dd_MO_isSet_2 (by decide) ?_
  refine lv_aload_n hx hb dd_MO_isSet_3 rfl (lv_at hl 0 rfl) ?_
  refine lv_iconst (v := 1) hx hb dd_MO_isSet_4 (by decide) ?_
  obtain ⟨r_1, x_2, c_3, hf⟩ := of_bnd hf
  refine cl_MO_60 C0 hap ho_v0 c_3 hP hS ⟨Nat.le_of_ble_eq_true rfl, Nat.le_of_ble_eq_true rfl⟩ hl.1 (Nat.le_of_ble_eq_true rfl) dd_MO_isSet_5 ⟨Nat.le_refl _, Nat.le_refl _⟩ (fun H locs hP hS => ?_)
  refine lv_ishl hx hb dd_MO_isSet_8 ?_
  refine lv_iconst (v := 1) hx hb dd_MO_isSet_9 (by decide) ?_
  refine lv_isub hx hb dd_MO_isSet_10 ?_
  obtain ⟨r_4, x_5, c_6, hf⟩ := of_bnd hf
  refine cl_MO_64 C0 hap  c_6 hP hS ⟨Nat.le_of_ble_eq_true rfl, Nat.le_of_ble_eq_true rfl⟩ hl.1 (Nat.le_of_ble_eq_true rfl) dd_MO_isSet_11 ⟨Nat.le_refl _, Nat.le_refl _⟩ (fun H locs hP hS => ?_)
  obtain ⟨h_7, hf⟩ := of_ifb hf
  exact rrZ C0 hP hS (zb_or h_7) dd_MO_isSet_14 hf
theorem cc_MO_isSet {l : Launch} {E : Ev} {A : Nat → Prop} {ad : Nat → Nat} (hap : Ap ad ixM A) {x x' : St} {v0 : Nat} {v1 : Int32} {r : Int32} (ho_v0 : isO ixM v0 6) (hf : ff_MO_isSet x v0 v1 = some (r, x')) : Met l yy_MO_isSet (Cond.code yy_MO_isSet bb_MO_isSet 2 (some .boolean) :: gtb) rm_MO_isSet (va_Pc [.ref (ad v0), .int v1] (PB E A ad ixM x)) (QX E ad ixM A (some (.int r)) x') 0 0 A := by
  exact enter (by decide) (Nat.le_of_ble_eq_true rfl) (fun p e s m below meth c ls C0 hP hS hl => ww_MO_isSet C0 hap ho_v0 hf hP hS hl)
abbrev rm_MO_addPiece : Room := { frames := 1, cells := 0, slots := 0, locals := 22 }
theorem dd_MO_addPiece_0 : decode bb_MO_addPiece 0 = .ok (.bipush 49, 2) := by decide +kernel
theorem dd_MO_addPiece_2 : decode bb_MO_addPiece 2 = .ok (.iconst 2, 1) := by decide +kernel
theorem dd_MO_addPiece_3 : decode bb_MO_addPiece 3 = .ok (.aload_n 0, 1) := by decide +kernel
theorem dd_MO_addPiece_4 : decode bb_MO_addPiece 4 = .ok (.iconst 2, 1) := by decide +kernel
theorem dd_MO_addPiece_5 : decode bb_MO_addPiece 5 = .ok (.invokevirtual 60, 3) := by decide +kernel
theorem dd_MO_addPiece_8 : decode bb_MO_addPiece 8 = .ok (.imul, 1) := by decide +kernel
theorem dd_MO_addPiece_9 : decode bb_MO_addPiece 9 = .ok (.iadd, 1) := by decide +kernel
theorem dd_MO_addPiece_10 : decode bb_MO_addPiece 10 = .ok (.istore_n 3, 1) := by decide +kernel
theorem dd_MO_addPiece_11 : decode bb_MO_addPiece 11 = .ok (.aload_n 0, 1) := by decide +kernel
theorem dd_MO_addPiece_12 : decode bb_MO_addPiece 12 = .ok (.iload_n 3, 1) := by decide +kernel
theorem dd_MO_addPiece_13 : decode bb_MO_addPiece 13 = .ok (.iload_n 1, 1) := by decide +kernel
theorem dd_MO_addPiece_14 : decode bb_MO_addPiece 14 = .ok (.invokevirtual 68, 3) := by decide +kernel
theorem dd_MO_addPiece_17 : decode bb_MO_addPiece 17 = .ok (.aload_n 0, 1) := by decide +kernel
theorem dd_MO_addPiece_18 : decode bb_MO_addPiece 18 = .ok (.iload_n 3, 1) := by decide +kernel
theorem dd_MO_addPiece_19 : decode bb_MO_addPiece 19 = .ok (.iconst 1, 1) := by decide +kernel
theorem dd_MO_addPiece_20 : decode bb_MO_addPiece 20 = .ok (.iadd, 1) := by decide +kernel
theorem dd_MO_addPiece_21 : decode bb_MO_addPiece 21 = .ok (.iload_n 2, 1) := by decide +kernel
theorem dd_MO_addPiece_22 : decode bb_MO_addPiece 22 = .ok (.invokevirtual 68, 3) := by decide +kernel
theorem dd_MO_addPiece_25 : decode bb_MO_addPiece 25 = .ok (.aload_n 0, 1) := by decide +kernel
theorem dd_MO_addPiece_26 : decode bb_MO_addPiece 26 = .ok (.iconst 2, 1) := by decide +kernel
theorem dd_MO_addPiece_27 : decode bb_MO_addPiece 27 = .ok (.aload_n 0, 1) := by decide +kernel
theorem dd_MO_addPiece_28 : decode bb_MO_addPiece 28 = .ok (.iconst 2, 1) := by decide +kernel
theorem dd_MO_addPiece_29 : decode bb_MO_addPiece 29 = .ok (.invokevirtual 60, 3) := by decide +kernel
theorem dd_MO_addPiece_32 : decode bb_MO_addPiece 32 = .ok (.iconst 1, 1) := by decide +kernel
theorem dd_MO_addPiece_33 : decode bb_MO_addPiece 33 = .ok (.iadd, 1) := by decide +kernel
theorem dd_MO_addPiece_34 : decode bb_MO_addPiece 34 = .ok (.invokevirtual 68, 3) := by decide +kernel
theorem dd_MO_addPiece_37 : decode bb_MO_addPiece 37 = .ok (.return_, 1) := by decide +kernel
def ff_MO_addPiece  (x : St) (v0 : Nat) (v1 : Int32) (v2 : Int32) : Option (Unit × St) := bnd (ff_MO_get x v0 2) (fun r_1 x_2 => bnd (ff_MO_set x_2 v0 (49 + (2 * r_1)) v1) (fun _ x_5 => bnd (ff_MO_set x_5 v0 ((49 + (2 * r_1)) + 1) v2) (fun _ x_8 => bnd (ff_MO_get x_8 v0 2) (fun r_10 x_11 => bnd (ff_MO_set x_11 v0 2 (r_10 + 1)) (fun _ x_14 => some ((), x_14))))))
set_option maxHeartbeats 4000000 in
set_option maxRecDepth 100000 in
theorem ww_MO_addPiece {p : Program} {l : Launch} {e : Env} {s : State} {m : MethodId} {args : Array Value} {below : List Frame} {meth : Method} {c : Code} {E : Ev} {A : Nat → Prop} {ad : Nat → Nat} {r : Unit} {x' : St} (C0 : Cx E A RMO bb_MO_addPiece 4 (none) p s m args meth c) (hap : Ap ad ixM A)  {x : St} {v0 : Nat} {v1 : Int32} {v2 : Int32} (ho_v0 : isO ixM v0 6) (hf : ff_MO_addPiece x v0 v1 v2 = some (r, x')) {H : Heap} {locs : List Loc} {ls : Array Slot} (hP : Wd E ad ixM x H) (hS : va_S A s.heap H locs) (hl : lv_has ls 4 [(0, .ref (ad v0)), (1, .int v1), (2, .int v2)]) : W p l e rm_MO_addPiece s m args below meth c H locs 0 0 (MQ below (QX E ad ixM A (none) x') args s 0 0 A) (F0 m 0 ls []) := by
  obtain ⟨hx, hb, hml, hr, hown, hts, hlk, hK⟩ := id C0
  have hf : bnd (ff_MO_get x v0 2) (fun r_1 x_2 => bnd (ff_MO_set x_2 v0 (49 + (2 * r_1)) v1) (fun _ x_5 => bnd (ff_MO_set x_5 v0 ((49 + (2 * r_1)) + 1) v2) (fun _ x_8 => bnd (ff_MO_get x_8 v0 2) (fun r_10 x_11 => bnd (ff_MO_set x_11 v0 2 (r_10 + 1)) (fun _ x_14 => some ((), x_14)))))) = some (r, x') := hf
  refine lv_bipush (v := 49) hx hb dd_MO_addPiece_0 (by decide) ?_
  refine lv_iconst (v := 2) hx hb dd_MO_addPiece_2 (by decide) ?_
  refine lv_aload_n hx hb dd_MO_addPiece_3 rfl (lv_at hl 0 rfl) ?_
  refine lv_iconst (v := 2) hx hb dd_MO_addPiece_4 (by decide) ?_
  obtain ⟨r_1, x_2, c_3, hf⟩ := of_bnd hf
  refine cl_MO_60 C0 hap ho_v0 c_3 hP hS ⟨Nat.le_of_ble_eq_true rfl, Nat.le_of_ble_eq_true rfl⟩ hl.1 (Nat.le_of_ble_eq_true rfl) dd_MO_addPiece_5 ⟨Nat.le_refl _, Nat.le_refl _⟩ (fun H locs hP hS => ?_)
  refine lv_imul hx hb dd_MO_addPiece_8 ?_
  refine lv_iadd hx hb dd_MO_addPiece_9 ?_
  refine lv_istore_n (lv' := [(3, .int (49 + (2 * r_1))), (0, .ref (ad v0)), (1, .int v1), (2, .int v2)]) hx hb dd_MO_addPiece_10 rfl hl (by decide) rfl (fun ls hl => ?_)
  refine lv_aload_n hx hb dd_MO_addPiece_11 rfl (lv_at hl 1 rfl) ?_
  refine lv_iload_n hx hb dd_MO_addPiece_12 rfl (lv_at hl 0 rfl) ?_
  refine lv_iload_n hx hb dd_MO_addPiece_13 rfl (lv_at hl 2 rfl) ?_
  obtain ⟨_, x_5, c_6, hf⟩ := of_bnd hf
  refine cl_MO_68 C0 hap ho_v0 c_6 hP hS ⟨Nat.le_of_ble_eq_true rfl, Nat.le_of_ble_eq_true rfl⟩ hl.1 (Nat.le_of_ble_eq_true rfl) dd_MO_addPiece_14 ⟨Nat.le_refl _, Nat.le_refl _⟩ (fun H locs hP hS => ?_)
  refine lv_aload_n hx hb dd_MO_addPiece_17 rfl (lv_at hl 1 rfl) ?_
  refine lv_iload_n hx hb dd_MO_addPiece_18 rfl (lv_at hl 0 rfl) ?_
  refine lv_iconst (v := 1) hx hb dd_MO_addPiece_19 (by decide) ?_
  refine lv_iadd hx hb dd_MO_addPiece_20 ?_
  refine lv_iload_n hx hb dd_MO_addPiece_21 rfl (lv_at hl 3 rfl) ?_
  obtain ⟨_, x_8, c_9, hf⟩ := of_bnd hf
  refine cl_MO_68 C0 hap ho_v0 c_9 hP hS ⟨Nat.le_of_ble_eq_true rfl, Nat.le_of_ble_eq_true rfl⟩ hl.1 (Nat.le_of_ble_eq_true rfl) dd_MO_addPiece_22 ⟨Nat.le_refl _, Nat.le_refl _⟩ (fun H locs hP hS => ?_)
  refine lv_aload_n hx hb dd_MO_addPiece_25 rfl (lv_at hl 1 rfl) ?_
  refine lv_iconst (v := 2) hx hb dd_MO_addPiece_26 (by decide) ?_
  refine lv_aload_n hx hb dd_MO_addPiece_27 rfl (lv_at hl 1 rfl) ?_
  refine lv_iconst (v := 2) hx hb dd_MO_addPiece_28 (by decide) ?_
  obtain ⟨r_10, x_11, c_12, hf⟩ := of_bnd hf
  refine cl_MO_60 C0 hap ho_v0 c_12 hP hS ⟨Nat.le_of_ble_eq_true rfl, Nat.le_of_ble_eq_true rfl⟩ hl.1 (Nat.le_of_ble_eq_true rfl) dd_MO_addPiece_29 ⟨Nat.le_refl _, Nat.le_refl _⟩ (fun H locs hP hS => ?_)
  refine lv_iconst (v := 1) hx hb dd_MO_addPiece_32 (by decide) ?_
  refine lv_iadd hx hb dd_MO_addPiece_33 ?_
  obtain ⟨_, x_14, c_15, hf⟩ := of_bnd hf
  refine cl_MO_68 C0 hap ho_v0 c_15 hP hS ⟨Nat.le_of_ble_eq_true rfl, Nat.le_of_ble_eq_true rfl⟩ hl.1 (Nat.le_of_ble_eq_true rfl) dd_MO_addPiece_34 ⟨Nat.le_refl _, Nat.le_refl _⟩ (fun H locs hP hS => ?_)
  exact rrV C0 hP hS dd_MO_addPiece_37 hf
theorem cc_MO_addPiece {l : Launch} {E : Ev} {A : Nat → Prop} {ad : Nat → Nat} (hap : Ap ad ixM A) {x x' : St} {v0 : Nat} {v1 : Int32} {v2 : Int32} {r : Unit} (ho_v0 : isO ixM v0 6) (hf : ff_MO_addPiece x v0 v1 v2 = some (r, x')) : Met l yy_MO_addPiece (Cond.code yy_MO_addPiece bb_MO_addPiece 4 (none) :: gtb) rm_MO_addPiece (va_Pc [.ref (ad v0), .int v1, .int v2] (PB E A ad ixM x)) (QX E ad ixM A (none) x') 0 0 A := by
  exact enter (by decide) (Nat.le_of_ble_eq_true rfl) (fun p e s m below meth c ls C0 hP hS hl => ww_MO_addPiece C0 hap ho_v0 hf hP hS hl)
abbrev rm_MO_addFeast : Room := { frames := 1, cells := 0, slots := 0, locals := 22 }
theorem dd_MO_addFeast_0 : decode bb_MO_addFeast 0 = .ok (.bipush 57, 2) := by decide +kernel
theorem dd_MO_addFeast_2 : decode bb_MO_addFeast 2 = .ok (.iconst 3, 1) := by decide +kernel
theorem dd_MO_addFeast_3 : decode bb_MO_addFeast 3 = .ok (.aload_n 0, 1) := by decide +kernel
theorem dd_MO_addFeast_4 : decode bb_MO_addFeast 4 = .ok (.iconst 3, 1) := by decide +kernel
theorem dd_MO_addFeast_5 : decode bb_MO_addFeast 5 = .ok (.invokevirtual 60, 3) := by decide +kernel
theorem dd_MO_addFeast_8 : decode bb_MO_addFeast 8 = .ok (.imul, 1) := by decide +kernel
theorem dd_MO_addFeast_9 : decode bb_MO_addFeast 9 = .ok (.iadd, 1) := by decide +kernel
theorem dd_MO_addFeast_10 : decode bb_MO_addFeast 10 = .ok (.istore 4, 2) := by decide +kernel
theorem dd_MO_addFeast_12 : decode bb_MO_addFeast 12 = .ok (.aload_n 0, 1) := by decide +kernel
theorem dd_MO_addFeast_13 : decode bb_MO_addFeast 13 = .ok (.iload 4, 2) := by decide +kernel
theorem dd_MO_addFeast_15 : decode bb_MO_addFeast 15 = .ok (.iload_n 1, 1) := by decide +kernel
theorem dd_MO_addFeast_16 : decode bb_MO_addFeast 16 = .ok (.invokevirtual 68, 3) := by decide +kernel
theorem dd_MO_addFeast_19 : decode bb_MO_addFeast 19 = .ok (.aload_n 0, 1) := by decide +kernel
theorem dd_MO_addFeast_20 : decode bb_MO_addFeast 20 = .ok (.iload 4, 2) := by decide +kernel
theorem dd_MO_addFeast_22 : decode bb_MO_addFeast 22 = .ok (.iconst 1, 1) := by decide +kernel
theorem dd_MO_addFeast_23 : decode bb_MO_addFeast 23 = .ok (.iadd, 1) := by decide +kernel
theorem dd_MO_addFeast_24 : decode bb_MO_addFeast 24 = .ok (.iload_n 2, 1) := by decide +kernel
theorem dd_MO_addFeast_25 : decode bb_MO_addFeast 25 = .ok (.invokevirtual 68, 3) := by decide +kernel
theorem dd_MO_addFeast_28 : decode bb_MO_addFeast 28 = .ok (.aload_n 0, 1) := by decide +kernel
theorem dd_MO_addFeast_29 : decode bb_MO_addFeast 29 = .ok (.iload 4, 2) := by decide +kernel
theorem dd_MO_addFeast_31 : decode bb_MO_addFeast 31 = .ok (.iconst 2, 1) := by decide +kernel
theorem dd_MO_addFeast_32 : decode bb_MO_addFeast 32 = .ok (.iadd, 1) := by decide +kernel
theorem dd_MO_addFeast_33 : decode bb_MO_addFeast 33 = .ok (.iload_n 3, 1) := by decide +kernel
theorem dd_MO_addFeast_34 : decode bb_MO_addFeast 34 = .ok (.invokevirtual 68, 3) := by decide +kernel
theorem dd_MO_addFeast_37 : decode bb_MO_addFeast 37 = .ok (.aload_n 0, 1) := by decide +kernel
theorem dd_MO_addFeast_38 : decode bb_MO_addFeast 38 = .ok (.iconst 3, 1) := by decide +kernel
theorem dd_MO_addFeast_39 : decode bb_MO_addFeast 39 = .ok (.aload_n 0, 1) := by decide +kernel
theorem dd_MO_addFeast_40 : decode bb_MO_addFeast 40 = .ok (.iconst 3, 1) := by decide +kernel
theorem dd_MO_addFeast_41 : decode bb_MO_addFeast 41 = .ok (.invokevirtual 60, 3) := by decide +kernel
theorem dd_MO_addFeast_44 : decode bb_MO_addFeast 44 = .ok (.iconst 1, 1) := by decide +kernel
theorem dd_MO_addFeast_45 : decode bb_MO_addFeast 45 = .ok (.iadd, 1) := by decide +kernel
theorem dd_MO_addFeast_46 : decode bb_MO_addFeast 46 = .ok (.invokevirtual 68, 3) := by decide +kernel
theorem dd_MO_addFeast_49 : decode bb_MO_addFeast 49 = .ok (.return_, 1) := by decide +kernel
def ff_MO_addFeast  (x : St) (v0 : Nat) (v1 : Int32) (v2 : Int32) (v3 : Int32) : Option (Unit × St) := bnd (ff_MO_get x v0 3) (fun r_1 x_2 => bnd (ff_MO_set x_2 v0 (57 + (3 * r_1)) v1) (fun _ x_5 => bnd (ff_MO_set x_5 v0 ((57 + (3 * r_1)) + 1) v2) (fun _ x_8 => bnd (ff_MO_set x_8 v0 ((57 + (3 * r_1)) + 2) v3) (fun _ x_11 => bnd (ff_MO_get x_11 v0 3) (fun r_13 x_14 => bnd (ff_MO_set x_14 v0 3 (r_13 + 1)) (fun _ x_17 => some ((), x_17)))))))
set_option maxHeartbeats 4000000 in
set_option maxRecDepth 100000 in
theorem ww_MO_addFeast {p : Program} {l : Launch} {e : Env} {s : State} {m : MethodId} {args : Array Value} {below : List Frame} {meth : Method} {c : Code} {E : Ev} {A : Nat → Prop} {ad : Nat → Nat} {r : Unit} {x' : St} (C0 : Cx E A RMO bb_MO_addFeast 5 (none) p s m args meth c) (hap : Ap ad ixM A)  {x : St} {v0 : Nat} {v1 : Int32} {v2 : Int32} {v3 : Int32} (ho_v0 : isO ixM v0 6) (hf : ff_MO_addFeast x v0 v1 v2 v3 = some (r, x')) {H : Heap} {locs : List Loc} {ls : Array Slot} (hP : Wd E ad ixM x H) (hS : va_S A s.heap H locs) (hl : lv_has ls 5 [(0, .ref (ad v0)), (1, .int v1), (2, .int v2), (3, .int v3)]) : W p l e rm_MO_addFeast s m args below meth c H locs 0 0 (MQ below (QX E ad ixM A (none) x') args s 0 0 A) (F0 m 0 ls []) := by
  obtain ⟨hx, hb, hml, hr, hown, hts, hlk, hK⟩ := id C0
  have hf : bnd (ff_MO_get x v0 3) (fun r_1 x_2 => bnd (ff_MO_set x_2 v0 (57 + (3 * r_1)) v1) (fun _ x_5 => bnd (ff_MO_set x_5 v0 ((57 + (3 * r_1)) + 1) v2) (fun _ x_8 => bnd (ff_MO_set x_8 v0 ((57 + (3 * r_1)) + 2) v3) (fun _ x_11 => bnd (ff_MO_get x_11 v0 3) (fun r_13 x_14 => bnd (ff_MO_set x_14 v0 3 (r_13 + 1)) (fun _ x_17 => some ((), x_17))))))) = some (r, x') := hf
  refine lv_bipush (v := 57) hx hb dd_MO_addFeast_0 (by decide) ?_
  refine lv_iconst (v := 3) hx hb dd_MO_addFeast_2 (by decide) ?_
  refine lv_aload_n hx hb dd_MO_addFeast_3 rfl (lv_at hl 0 rfl) ?_
  refine lv_iconst (v := 3) hx hb dd_MO_addFeast_4 (by decide) ?_
  obtain ⟨r_1, x_2, c_3, hf⟩ := of_bnd hf
  refine cl_MO_60 C0 hap ho_v0 c_3 hP hS ⟨Nat.le_of_ble_eq_true rfl, Nat.le_of_ble_eq_true rfl⟩ hl.1 (Nat.le_of_ble_eq_true rfl) dd_MO_addFeast_5 ⟨Nat.le_refl _, Nat.le_refl _⟩ (fun H locs hP hS => ?_)
  refine lv_imul hx hb dd_MO_addFeast_8 ?_
  refine lv_iadd hx hb dd_MO_addFeast_9 ?_
  refine lv_istore (lv' := [(4, .int (57 + (3 * r_1))), (0, .ref (ad v0)), (1, .int v1), (2, .int v2), (3, .int v3)]) hx hb dd_MO_addFeast_10 hl (by decide) rfl (fun ls hl => ?_)
  refine lv_aload_n hx hb dd_MO_addFeast_12 rfl (lv_at hl 1 rfl) ?_
  refine lv_iload hx hb dd_MO_addFeast_13 (lv_at hl 0 rfl) ?_
  refine lv_iload_n hx hb dd_MO_addFeast_15 rfl (lv_at hl 2 rfl) ?_
  obtain ⟨_, x_5, c_6, hf⟩ := of_bnd hf
  refine cl_MO_68 C0 hap ho_v0 c_6 hP hS ⟨Nat.le_of_ble_eq_true rfl, Nat.le_of_ble_eq_true rfl⟩ hl.1 (Nat.le_of_ble_eq_true rfl) dd_MO_addFeast_16 ⟨Nat.le_refl _, Nat.le_refl _⟩ (fun H locs hP hS => ?_)
  refine lv_aload_n hx hb dd_MO_addFeast_19 rfl (lv_at hl 1 rfl) ?_
  refine lv_iload hx hb dd_MO_addFeast_20 (lv_at hl 0 rfl) ?_
  refine lv_iconst (v := 1) hx hb dd_MO_addFeast_22 (by decide) ?_
  refine lv_iadd hx hb dd_MO_addFeast_23 ?_
  refine lv_iload_n hx hb dd_MO_addFeast_24 rfl (lv_at hl 3 rfl) ?_
  obtain ⟨_, x_8, c_9, hf⟩ := of_bnd hf
  refine cl_MO_68 C0 hap ho_v0 c_9 hP hS ⟨Nat.le_of_ble_eq_true rfl, Nat.le_of_ble_eq_true rfl⟩ hl.1 (Nat.le_of_ble_eq_true rfl) dd_MO_addFeast_25 ⟨Nat.le_refl _, Nat.le_refl _⟩ (fun H locs hP hS => ?_)
  refine lv_aload_n hx hb dd_MO_addFeast_28 rfl (lv_at hl 1 rfl) ?_
  refine lv_iload hx hb dd_MO_addFeast_29 (lv_at hl 0 rfl) ?_
  refine lv_iconst (v := 2) hx hb dd_MO_addFeast_31 (by decide) ?_
  refine lv_iadd hx hb dd_MO_addFeast_32 ?_
  refine lv_iload_n hx hb dd_MO_addFeast_33 rfl (lv_at hl 4 rfl) ?_
  obtain ⟨_, x_11, c_12, hf⟩ := of_bnd hf
  refine cl_MO_68 C0 hap ho_v0 c_12 hP hS ⟨Nat.le_of_ble_eq_true rfl, Nat.le_of_ble_eq_true rfl⟩ hl.1 (Nat.le_of_ble_eq_true rfl) dd_MO_addFeast_34 ⟨Nat.le_refl _, Nat.le_refl _⟩ (fun H locs hP hS => ?_)
  refine lv_aload_n hx hb dd_MO_addFeast_37 rfl (lv_at hl 1 rfl) ?_
  refine lv_iconst (v := 3) hx hb dd_MO_addFeast_38 (by decide) ?_
  refine lv_aload_n hx hb dd_MO_addFeast_39 rfl (lv_at hl 1 rfl) ?_
  refine lv_iconst (v := 3) hx hb dd_MO_addFeast_40 (by decide) ?_
  obtain ⟨r_13, x_14, c_15, hf⟩ := of_bnd hf
  refine cl_MO_60 C0 hap ho_v0 c_15 hP hS ⟨Nat.le_of_ble_eq_true rfl, Nat.le_of_ble_eq_true rfl⟩ hl.1 (Nat.le_of_ble_eq_true rfl) dd_MO_addFeast_41 ⟨Nat.le_refl _, Nat.le_refl _⟩ (fun H locs hP hS => ?_)
  refine lv_iconst (v := 1) hx hb dd_MO_addFeast_44 (by decide) ?_
  refine lv_iadd hx hb dd_MO_addFeast_45 ?_
  obtain ⟨_, x_17, c_18, hf⟩ := of_bnd hf
  refine cl_MO_68 C0 hap ho_v0 c_18 hP hS ⟨Nat.le_of_ble_eq_true rfl, Nat.le_of_ble_eq_true rfl⟩ hl.1 (Nat.le_of_ble_eq_true rfl) dd_MO_addFeast_46 ⟨Nat.le_refl _, Nat.le_refl _⟩ (fun H locs hP hS => ?_)
  exact rrV C0 hP hS dd_MO_addFeast_49 hf
theorem cc_MO_addFeast {l : Launch} {E : Ev} {A : Nat → Prop} {ad : Nat → Nat} (hap : Ap ad ixM A) {x x' : St} {v0 : Nat} {v1 : Int32} {v2 : Int32} {v3 : Int32} {r : Unit} (ho_v0 : isO ixM v0 6) (hf : ff_MO_addFeast x v0 v1 v2 v3 = some (r, x')) : Met l yy_MO_addFeast (Cond.code yy_MO_addFeast bb_MO_addFeast 5 (none) :: gtb) rm_MO_addFeast (va_Pc [.ref (ad v0), .int v1, .int v2, .int v3] (PB E A ad ixM x)) (QX E ad ixM A (none) x') 0 0 A := by
  exact enter (by decide) (Nat.le_of_ble_eq_true rfl) (fun p e s m below meth c ls C0 hP hS hl => ww_MO_addFeast C0 hap ho_v0 hf hP hS hl)
abbrev rm_MO_boiled : Room := { frames := 1, cells := 0, slots := 0, locals := 22 }
theorem dd_MO_boiled_0 : decode bb_MO_boiled 0 = .ok (.bipush 25, 2) := by decide +kernel
theorem dd_MO_boiled_2 : decode bb_MO_boiled 2 = .ok (.iconst 4, 1) := by decide +kernel
theorem dd_MO_boiled_3 : decode bb_MO_boiled 3 = .ok (.iload_n 1, 1) := by decide +kernel
theorem dd_MO_boiled_4 : decode bb_MO_boiled 4 = .ok (.imul, 1) := by decide +kernel
theorem dd_MO_boiled_5 : decode bb_MO_boiled 5 = .ok (.iadd, 1) := by decide +kernel
theorem dd_MO_boiled_6 : decode bb_MO_boiled 6 = .ok (.istore 4, 2) := by decide +kernel
theorem dd_MO_boiled_8 : decode bb_MO_boiled 8 = .ok (.aload_n 0, 1) := by decide +kernel
theorem dd_MO_boiled_9 : decode bb_MO_boiled 9 = .ok (.iload 4, 2) := by decide +kernel
theorem dd_MO_boiled_11 : decode bb_MO_boiled 11 = .ok (.iconst 1, 1) := by decide +kernel
theorem dd_MO_boiled_12 : decode bb_MO_boiled 12 = .ok (.iadd, 1) := by decide +kernel
theorem dd_MO_boiled_13 : decode bb_MO_boiled 13 = .ok (.aload_n 0, 1) := by decide +kernel
theorem dd_MO_boiled_14 : decode bb_MO_boiled 14 = .ok (.iconst 5, 1) := by decide +kernel
theorem dd_MO_boiled_15 : decode bb_MO_boiled 15 = .ok (.invokevirtual 60, 3) := by decide +kernel
theorem dd_MO_boiled_18 : decode bb_MO_boiled 18 = .ok (.invokevirtual 68, 3) := by decide +kernel
theorem dd_MO_boiled_21 : decode bb_MO_boiled 21 = .ok (.aload_n 0, 1) := by decide +kernel
theorem dd_MO_boiled_22 : decode bb_MO_boiled 22 = .ok (.iload 4, 2) := by decide +kernel
theorem dd_MO_boiled_24 : decode bb_MO_boiled 24 = .ok (.iconst 2, 1) := by decide +kernel
theorem dd_MO_boiled_25 : decode bb_MO_boiled 25 = .ok (.iadd, 1) := by decide +kernel
theorem dd_MO_boiled_26 : decode bb_MO_boiled 26 = .ok (.iload_n 2, 1) := by decide +kernel
theorem dd_MO_boiled_27 : decode bb_MO_boiled 27 = .ok (.invokevirtual 68, 3) := by decide +kernel
theorem dd_MO_boiled_30 : decode bb_MO_boiled 30 = .ok (.aload_n 0, 1) := by decide +kernel
theorem dd_MO_boiled_31 : decode bb_MO_boiled 31 = .ok (.iload 4, 2) := by decide +kernel
theorem dd_MO_boiled_33 : decode bb_MO_boiled 33 = .ok (.iconst 3, 1) := by decide +kernel
theorem dd_MO_boiled_34 : decode bb_MO_boiled 34 = .ok (.iadd, 1) := by decide +kernel
theorem dd_MO_boiled_35 : decode bb_MO_boiled 35 = .ok (.iload_n 3, 1) := by decide +kernel
theorem dd_MO_boiled_36 : decode bb_MO_boiled 36 = .ok (.invokevirtual 68, 3) := by decide +kernel
theorem dd_MO_boiled_39 : decode bb_MO_boiled 39 = .ok (.return_, 1) := by decide +kernel
def ff_MO_boiled  (x : St) (v0 : Nat) (v1 : Int32) (v2 : Int32) (v3 : Int32) : Option (Unit × St) := bnd (ff_MO_get x v0 5) (fun r_1 x_2 => bnd (ff_MO_set x_2 v0 ((25 + (4 * v1)) + 1) r_1) (fun _ x_5 => bnd (ff_MO_set x_5 v0 ((25 + (4 * v1)) + 2) v2) (fun _ x_8 => bnd (ff_MO_set x_8 v0 ((25 + (4 * v1)) + 3) v3) (fun _ x_11 => some ((), x_11)))))
set_option maxHeartbeats 4000000 in
set_option maxRecDepth 100000 in
theorem ww_MO_boiled {p : Program} {l : Launch} {e : Env} {s : State} {m : MethodId} {args : Array Value} {below : List Frame} {meth : Method} {c : Code} {E : Ev} {A : Nat → Prop} {ad : Nat → Nat} {r : Unit} {x' : St} (C0 : Cx E A RMO bb_MO_boiled 5 (none) p s m args meth c) (hap : Ap ad ixM A)  {x : St} {v0 : Nat} {v1 : Int32} {v2 : Int32} {v3 : Int32} (ho_v0 : isO ixM v0 6) (hf : ff_MO_boiled x v0 v1 v2 v3 = some (r, x')) {H : Heap} {locs : List Loc} {ls : Array Slot} (hP : Wd E ad ixM x H) (hS : va_S A s.heap H locs) (hl : lv_has ls 5 [(0, .ref (ad v0)), (1, .int v1), (2, .int v2), (3, .int v3)]) : W p l e rm_MO_boiled s m args below meth c H locs 0 0 (MQ below (QX E ad ixM A (none) x') args s 0 0 A) (F0 m 0 ls []) := by
  obtain ⟨hx, hb, hml, hr, hown, hts, hlk, hK⟩ := id C0
  have hf : bnd (ff_MO_get x v0 5) (fun r_1 x_2 => bnd (ff_MO_set x_2 v0 ((25 + (4 * v1)) + 1) r_1) (fun _ x_5 => bnd (ff_MO_set x_5 v0 ((25 + (4 * v1)) + 2) v2) (fun _ x_8 => bnd (ff_MO_set x_8 v0 ((25 + (4 * v1)) + 3) v3) (fun _ x_11 => some ((), x_11))))) = some (r, x') := hf
  refine lv_bipush (v := 25) hx hb dd_MO_boiled_0 (by decide) ?_
  refine lv_iconst (v := 4) hx hb dd_MO_boiled_2 (by decide) ?_
  refine lv_iload_n hx hb dd_MO_boiled_3 rfl (lv_at hl 1 rfl) ?_
  refine lv_imul hx hb dd_MO_boiled_4 ?_
  refine lv_iadd hx hb dd_MO_boiled_5 ?_
  refine lv_istore (lv' := [(4, .int (25 + (4 * v1))), (0, .ref (ad v0)), (1, .int v1), (2, .int v2), (3, .int v3)]) hx hb dd_MO_boiled_6 hl (by decide) rfl (fun ls hl => ?_)
  refine lv_aload_n hx hb dd_MO_boiled_8 rfl (lv_at hl 1 rfl) ?_
  refine lv_iload hx hb dd_MO_boiled_9 (lv_at hl 0 rfl) ?_
  refine lv_iconst (v := 1) hx hb dd_MO_boiled_11 (by decide) ?_
  refine lv_iadd hx hb dd_MO_boiled_12 ?_
  refine lv_aload_n hx hb dd_MO_boiled_13 rfl (lv_at hl 1 rfl) ?_
  refine lv_iconst (v := 5) hx hb dd_MO_boiled_14 (by decide) ?_
  obtain ⟨r_1, x_2, c_3, hf⟩ := of_bnd hf
  refine cl_MO_60 C0 hap ho_v0 c_3 hP hS ⟨Nat.le_of_ble_eq_true rfl, Nat.le_of_ble_eq_true rfl⟩ hl.1 (Nat.le_of_ble_eq_true rfl) dd_MO_boiled_15 ⟨Nat.le_refl _, Nat.le_refl _⟩ (fun H locs hP hS => ?_)
  obtain ⟨_, x_5, c_6, hf⟩ := of_bnd hf
  refine cl_MO_68 C0 hap ho_v0 c_6 hP hS ⟨Nat.le_of_ble_eq_true rfl, Nat.le_of_ble_eq_true rfl⟩ hl.1 (Nat.le_of_ble_eq_true rfl) dd_MO_boiled_18 ⟨Nat.le_refl _, Nat.le_refl _⟩ (fun H locs hP hS => ?_)
  refine lv_aload_n hx hb dd_MO_boiled_21 rfl (lv_at hl 1 rfl) ?_
  refine lv_iload hx hb dd_MO_boiled_22 (lv_at hl 0 rfl) ?_
  refine lv_iconst (v := 2) hx hb dd_MO_boiled_24 (by decide) ?_
  refine lv_iadd hx hb dd_MO_boiled_25 ?_
  refine lv_iload_n hx hb dd_MO_boiled_26 rfl (lv_at hl 3 rfl) ?_
  obtain ⟨_, x_8, c_9, hf⟩ := of_bnd hf
  refine cl_MO_68 C0 hap ho_v0 c_9 hP hS ⟨Nat.le_of_ble_eq_true rfl, Nat.le_of_ble_eq_true rfl⟩ hl.1 (Nat.le_of_ble_eq_true rfl) dd_MO_boiled_27 ⟨Nat.le_refl _, Nat.le_refl _⟩ (fun H locs hP hS => ?_)
  refine lv_aload_n hx hb dd_MO_boiled_30 rfl (lv_at hl 1 rfl) ?_
  refine lv_iload hx hb dd_MO_boiled_31 (lv_at hl 0 rfl) ?_
  refine lv_iconst (v := 3) hx hb dd_MO_boiled_33 (by decide) ?_
  refine lv_iadd hx hb dd_MO_boiled_34 ?_
  refine lv_iload_n hx hb dd_MO_boiled_35 rfl (lv_at hl 4 rfl) ?_
  obtain ⟨_, x_11, c_12, hf⟩ := of_bnd hf
  refine cl_MO_68 C0 hap ho_v0 c_12 hP hS ⟨Nat.le_of_ble_eq_true rfl, Nat.le_of_ble_eq_true rfl⟩ hl.1 (Nat.le_of_ble_eq_true rfl) dd_MO_boiled_36 ⟨Nat.le_refl _, Nat.le_refl _⟩ (fun H locs hP hS => ?_)
  exact rrV C0 hP hS dd_MO_boiled_39 hf
theorem cc_MO_boiled {l : Launch} {E : Ev} {A : Nat → Prop} {ad : Nat → Nat} (hap : Ap ad ixM A) {x x' : St} {v0 : Nat} {v1 : Int32} {v2 : Int32} {v3 : Int32} {r : Unit} (ho_v0 : isO ixM v0 6) (hf : ff_MO_boiled x v0 v1 v2 v3 = some (r, x')) : Met l yy_MO_boiled (Cond.code yy_MO_boiled bb_MO_boiled 5 (none) :: gtb) rm_MO_boiled (va_Pc [.ref (ad v0), .int v1, .int v2, .int v3] (PB E A ad ixM x)) (QX E ad ixM A (none) x') 0 0 A := by
  exact enter (by decide) (Nat.le_of_ble_eq_true rfl) (fun p e s m below meth c ls C0 hP hS hl => ww_MO_boiled C0 hap ho_v0 hf hP hS hl)
theorem cl_MO_72 {p : Program} {l : Launch} {e : Env} {R : Room} {s : State} {m : MethodId} {args : Array Value} {below : List Frame} {meth : Method} {c : Code} {H : Heap} {locs : List Loc} {cells slots : Nat} {Q : State → Prop} {cc : ByteArray} {pc : Nat} {ls : Array Slot} {rest : List Value} {E : Ev} {A : Nat → Prop} {ad : Nat → Nat} {nL : Nat} {rt : Option FieldType} (C0 : Cx E A RMO cc nL rt p s m args meth c) (hap : Ap ad ixM A) {x x' : St} {v0 : Nat} {r : Int32} (ho_v0 : isO ixM v0 6) (hc : ff_MO_bad x v0 = some (r, x')) (hP : Wd E ad ixM x H) (hS : va_S A s.heap H locs) (hR : rm_MO_bad.frames + 1 ≤ R.frames ∧ 8 + (1 + 11) + rm_MO_bad.locals ≤ R.locals) (hls : ls.size = nL) (hroom : (rest.map fun v => v.category).sum ≤ 8) (hdg : decode cc pc = .ok (.invokevirtual 72, 3)) (hf : cells ≤ R.cells ∧ slots ≤ R.slots) (kk : ∀ H1 locs1, Wd E ad ixM x' H1 → va_S A s.heap H1 locs1 → W p l e R s m args below meth c H1 locs1 cells slots Q (F0 m (pc + 3) ls (.int r :: rest))) : W p l e R s m args below meth c H locs cells slots Q (F0 m pc ls (.ref (ad v0) :: rest)) :=
  rcV (n := 0) C0 (cc_MO_bad hap ho_v0 hc) hP hS ho_v0 vcl_6 (by decide) gw_code_MO_bad gw_m_MO_72 gw_inst_MO_bad gw_sel_MO_bad gw_ini_MO rfl rfl (by decide +kernel) rfl hR hls rfl hroom hdg hf (fun H1 locs1 a _ _ b => kk H1 locs1 a b)
theorem cl_MO_76 {p : Program} {l : Launch} {e : Env} {R : Room} {s : State} {m : MethodId} {args : Array Value} {below : List Frame} {meth : Method} {c : Code} {H : Heap} {locs : List Loc} {cells slots : Nat} {Q : State → Prop} {cc : ByteArray} {pc : Nat} {ls : Array Slot} {rest : List Value} {E : Ev} {A : Nat → Prop} {ad : Nat → Nat} {nL : Nat} {rt : Option FieldType} (C0 : Cx E A RMO cc nL rt p s m args meth c) (hap : Ap ad ixM A) {x x' : St} {v0 : Nat} {r : Int32} (ho_v0 : isO ixM v0 6) (hc : ff_MO_full x v0 = some (r, x')) (hP : Wd E ad ixM x H) (hS : va_S A s.heap H locs) (hR : rm_MO_full.frames + 1 ≤ R.frames ∧ 8 + (1 + 11) + rm_MO_full.locals ≤ R.locals) (hls : ls.size = nL) (hroom : (rest.map fun v => v.category).sum ≤ 8) (hdg : decode cc pc = .ok (.invokevirtual 76, 3)) (hf : cells ≤ R.cells ∧ slots ≤ R.slots) (kk : ∀ H1 locs1, Wd E ad ixM x' H1 → va_S A s.heap H1 locs1 → W p l e R s m args below meth c H1 locs1 cells slots Q (F0 m (pc + 3) ls (.int r :: rest))) : W p l e R s m args below meth c H locs cells slots Q (F0 m pc ls (.ref (ad v0) :: rest)) :=
  rcV (n := 0) C0 (cc_MO_full hap ho_v0 hc) hP hS ho_v0 vcl_6 (by decide) gw_code_MO_full gw_m_MO_76 gw_inst_MO_full gw_sel_MO_full gw_ini_MO rfl rfl (by decide +kernel) rfl hR hls rfl hroom hdg hf (fun H1 locs1 a _ _ b => kk H1 locs1 a b)
theorem cl_MO_79 {p : Program} {l : Launch} {e : Env} {R : Room} {s : State} {m : MethodId} {args : Array Value} {below : List Frame} {meth : Method} {c : Code} {H : Heap} {locs : List Loc} {cells slots : Nat} {Q : State → Prop} {cc : ByteArray} {pc : Nat} {ls : Array Slot} {rest : List Value} {E : Ev} {A : Nat → Prop} {ad : Nat → Nat} {nL : Nat} {rt : Option FieldType} (C0 : Cx E A RMO cc nL rt p s m args meth c) (hap : Ap ad ixM A) {x x' : St} {v0 : Nat} {v1 : Int32} {v2 : Int32} {v3 : Int32} {r : Unit} (ho_v0 : isO ixM v0 6) (hc : ff_MO_addMourner x v0 v1 v2 v3 = some (r, x')) (hP : Wd E ad ixM x H) (hS : va_S A s.heap H locs) (hR : rm_MO_addMourner.frames + 1 ≤ R.frames ∧ 8 + (5 + 11) + rm_MO_addMourner.locals ≤ R.locals) (hls : ls.size = nL) (hroom : (rest.map fun v => v.category).sum ≤ 8) (hdg : decode cc pc = .ok (.invokevirtual 79, 3)) (hf : cells ≤ R.cells ∧ slots ≤ R.slots) (kk : ∀ H1 locs1, Wd E ad ixM x' H1 → va_S A s.heap H1 locs1 → W p l e R s m args below meth c H1 locs1 cells slots Q (F0 m (pc + 3) ls (rest))) : W p l e R s m args below meth c H locs cells slots Q (F0 m pc ls (.int v3 :: .int v2 :: .int v1 :: .ref (ad v0) :: rest)) :=
  rcV (n := 3) C0 (cc_MO_addMourner hap ho_v0 hc) hP hS ho_v0 vcl_6 (by decide) gw_code_MO_addMourner gw_m_MO_79 gw_inst_MO_addMourner gw_sel_MO_addMourner gw_ini_MO rfl rfl (by decide +kernel) rfl hR hls rfl hroom hdg hf (fun H1 locs1 a _ _ b => kk H1 locs1 a b)
abbrev rm_MO_mourner : Room := { frames := 2, cells := 0, slots := 0, locals := 46 }
theorem dd_MO_mourner_0 : decode bb_MO_mourner 0 = .ok (.iload_n 1, 1) := by decide +kernel
theorem dd_MO_mourner_1 : decode bb_MO_mourner 1 = .ok (.iconst 0, 1) := by decide +kernel
theorem dd_MO_mourner_2 : decode bb_MO_mourner 2 = .ok (.iconst 5, 1) := by decide +kernel
theorem dd_MO_mourner_3 : decode bb_MO_mourner 3 = .ok (.invokestatic 64, 3) := by decide +kernel
theorem dd_MO_mourner_6 : decode bb_MO_mourner 6 = .ok (.ifCond .eq 23, 3) := by decide +kernel
theorem dd_MO_mourner_9 : decode bb_MO_mourner 9 = .ok (.iload_n 2, 1) := by decide +kernel
theorem dd_MO_mourner_10 : decode bb_MO_mourner 10 = .ok (.iconst 0, 1) := by decide +kernel
theorem dd_MO_mourner_11 : decode bb_MO_mourner 11 = .ok (.bipush 99, 2) := by decide +kernel
theorem dd_MO_mourner_13 : decode bb_MO_mourner 13 = .ok (.invokestatic 64, 3) := by decide +kernel
theorem dd_MO_mourner_16 : decode bb_MO_mourner 16 = .ok (.ifCond .eq 13, 3) := by decide +kernel
theorem dd_MO_mourner_19 : decode bb_MO_mourner 19 = .ok (.iload_n 3, 1) := by decide +kernel
theorem dd_MO_mourner_20 : decode bb_MO_mourner 20 = .ok (.iconst 0, 1) := by decide +kernel
theorem dd_MO_mourner_21 : decode bb_MO_mourner 21 = .ok (.bipush 99, 2) := by decide +kernel
theorem dd_MO_mourner_23 : decode bb_MO_mourner 23 = .ok (.invokestatic 64, 3) := by decide +kernel
theorem dd_MO_mourner_26 : decode bb_MO_mourner 26 = .ok (.ifCond .ne 8, 3) := by decide +kernel
theorem dd_MO_mourner_29 : decode bb_MO_mourner 29 = .ok (.aload_n 0, 1) := by decide +kernel
theorem dd_MO_mourner_30 : decode bb_MO_mourner 30 = .ok (.invokevirtual 72, 3) := by decide +kernel
theorem dd_MO_mourner_33 : decode bb_MO_mourner 33 = .ok (.ireturn, 1) := by decide +kernel
theorem dd_MO_mourner_34 : decode bb_MO_mourner 34 = .ok (.aload_n 0, 1) := by decide +kernel
theorem dd_MO_mourner_35 : decode bb_MO_mourner 35 = .ok (.iconst 0, 1) := by decide +kernel
theorem dd_MO_mourner_36 : decode bb_MO_mourner 36 = .ok (.invokevirtual 60, 3) := by decide +kernel
theorem dd_MO_mourner_39 : decode bb_MO_mourner 39 = .ok (.bipush 6, 2) := by decide +kernel
theorem dd_MO_mourner_41 : decode bb_MO_mourner 41 = .ok (.if_icmp .ne 8, 3) := by decide +kernel
theorem dd_MO_mourner_44 : decode bb_MO_mourner 44 = .ok (.aload_n 0, 1) := by decide +kernel
theorem dd_MO_mourner_45 : decode bb_MO_mourner 45 = .ok (.invokevirtual 76, 3) := by decide +kernel
theorem dd_MO_mourner_48 : decode bb_MO_mourner 48 = .ok (.ireturn, 1) := by decide +kernel
theorem dd_MO_mourner_49 : decode bb_MO_mourner 49 = .ok (.aload_n 0, 1) := by decide +kernel
theorem dd_MO_mourner_50 : decode bb_MO_mourner 50 = .ok (.iload_n 1, 1) := by decide +kernel
theorem dd_MO_mourner_51 : decode bb_MO_mourner 51 = .ok (.iload_n 2, 1) := by decide +kernel
theorem dd_MO_mourner_52 : decode bb_MO_mourner 52 = .ok (.iload_n 3, 1) := by decide +kernel
theorem dd_MO_mourner_53 : decode bb_MO_mourner 53 = .ok (.invokevirtual 79, 3) := by decide +kernel
theorem dd_MO_mourner_56 : decode bb_MO_mourner 56 = .ok (.aload_n 0, 1) := by decide +kernel
theorem dd_MO_mourner_57 : decode bb_MO_mourner 57 = .ok (.iconst 0, 1) := by decide +kernel
theorem dd_MO_mourner_58 : decode bb_MO_mourner 58 = .ok (.invokevirtual 60, 3) := by decide +kernel
theorem dd_MO_mourner_61 : decode bb_MO_mourner 61 = .ok (.iconst 1, 1) := by decide +kernel
theorem dd_MO_mourner_62 : decode bb_MO_mourner 62 = .ok (.isub, 1) := by decide +kernel
theorem dd_MO_mourner_63 : decode bb_MO_mourner 63 = .ok (.ireturn, 1) := by decide +kernel
def ff_MO_mourner  (x : St) (v0 : Nat) (v1 : Int32) (v2 : Int32) (v3 : Int32) : Option (Int32 × St) := bnd (ff_MO_in x v1 0 5) (fun r_1 x_2 => (if r_1 = 0 then bnd (ff_MO_bad x_2 v0) (fun r_5 x_6 => some (r_5, x_6)) else bnd (ff_MO_in x_2 v2 0 99) (fun r_8 x_9 => (if r_8 = 0 then bnd (ff_MO_bad x_9 v0) (fun r_12 x_13 => some (r_12, x_13)) else bnd (ff_MO_in x_9 v3 0 99) (fun r_15 x_16 => (if r_15 = 0 then bnd (ff_MO_bad x_16 v0) (fun r_32 x_33 => some (r_32, x_33)) else bnd (ff_MO_get x_16 v0 0) (fun r_19 x_20 => (if r_19 = 6 then bnd (ff_MO_full x_20 v0) (fun r_29 x_30 => some (r_29, x_30)) else bnd (ff_MO_addMourner x_20 v0 v1 v2 v3) (fun _ x_24 => bnd (ff_MO_get x_24 v0 0) (fun r_26 x_27 => some (r_26 - 1, x_27)))))))))))
set_option maxHeartbeats 4000000 in
set_option maxRecDepth 100000 in
theorem ww_MO_mourner {p : Program} {l : Launch} {e : Env} {s : State} {m : MethodId} {args : Array Value} {below : List Frame} {meth : Method} {c : Code} {E : Ev} {A : Nat → Prop} {ad : Nat → Nat} {r : Int32} {x' : St} (C0 : Cx E A RMO bb_MO_mourner 4 (some .int) p s m args meth c) (hap : Ap ad ixM A)  {x : St} {v0 : Nat} {v1 : Int32} {v2 : Int32} {v3 : Int32} (ho_v0 : isO ixM v0 6) (hf : ff_MO_mourner x v0 v1 v2 v3 = some (r, x')) {H : Heap} {locs : List Loc} {ls : Array Slot} (hP : Wd E ad ixM x H) (hS : va_S A s.heap H locs) (hl : lv_has ls 4 [(0, .ref (ad v0)), (1, .int v1), (2, .int v2), (3, .int v3)]) : W p l e rm_MO_mourner s m args below meth c H locs 0 0 (MQ below (QX E ad ixM A (some (.int r)) x') args s 0 0 A) (F0 m 0 ls []) := by
  obtain ⟨hx, hb, hml, hr, hown, hts, hlk, hK⟩ := id C0
  have hf : bnd (ff_MO_in x v1 0 5) (fun r_1 x_2 => (if r_1 = 0 then bnd (ff_MO_bad x_2 v0) (fun r_5 x_6 => some (r_5, x_6)) else bnd (ff_MO_in x_2 v2 0 99) (fun r_8 x_9 => (if r_8 = 0 then bnd (ff_MO_bad x_9 v0) (fun r_12 x_13 => some (r_12, x_13)) else bnd (ff_MO_in x_9 v3 0 99) (fun r_15 x_16 => (if r_15 = 0 then bnd (ff_MO_bad x_16 v0) (fun r_32 x_33 => some (r_32, x_33)) else bnd (ff_MO_get x_16 v0 0) (fun r_19 x_20 => (if r_19 = 6 then bnd (ff_MO_full x_20 v0) (fun r_29 x_30 => some (r_29, x_30)) else bnd (ff_MO_addMourner x_20 v0 v1 v2 v3) (fun _ x_24 => bnd (ff_MO_get x_24 v0 0) (fun r_26 x_27 => some (r_26 - 1, x_27))))))))))) = some (r, x') := hf
  refine lv_iload_n hx hb dd_MO_mourner_0 rfl (lv_at hl 1 rfl) ?_
  refine lv_iconst (v := 0) hx hb dd_MO_mourner_1 (by decide) ?_
  refine lv_iconst (v := 5) hx hb dd_MO_mourner_2 (by decide) ?_
  obtain ⟨r_1, x_2, c_3, hf⟩ := of_bnd hf
  refine cl_MO_64 C0 hap  c_3 hP hS ⟨Nat.le_of_ble_eq_true rfl, Nat.le_of_ble_eq_true rfl⟩ hl.1 (Nat.le_of_ble_eq_true rfl) dd_MO_mourner_3 ⟨Nat.le_refl _, Nat.le_refl _⟩ (fun H locs hP hS => ?_)
  refine lv_if_eq (tgt := 29) hx hb dd_MO_mourner_6 (by decide) (fun h_4 => ?_) (fun h_4 => ?_)
  · have hf := (if_pos h_4).symm.trans hf
    refine lv_aload_n hx hb dd_MO_mourner_29 rfl (lv_at hl 0 rfl) ?_
    obtain ⟨r_5, x_6, c_7, hf⟩ := of_bnd hf
    refine cl_MO_72 C0 hap ho_v0 c_7 hP hS ⟨Nat.le_of_ble_eq_true rfl, Nat.le_of_ble_eq_true rfl⟩ hl.1 (Nat.le_of_ble_eq_true rfl) dd_MO_mourner_30 ⟨Nat.le_refl _, Nat.le_refl _⟩ (fun H locs hP hS => ?_)
    exact rrI C0 hP hS dd_MO_mourner_33 hf
  · have hf := (if_neg h_4).symm.trans hf
    refine lv_iload_n hx hb dd_MO_mourner_9 rfl (lv_at hl 2 rfl) ?_
    refine lv_iconst (v := 0) hx hb dd_MO_mourner_10 (by decide) ?_
    refine lv_bipush (v := 99) hx hb dd_MO_mourner_11 (by decide) ?_
    obtain ⟨r_8, x_9, c_10, hf⟩ := of_bnd hf
    refine cl_MO_64 C0 hap  c_10 hP hS ⟨Nat.le_of_ble_eq_true rfl, Nat.le_of_ble_eq_true rfl⟩ hl.1 (Nat.le_of_ble_eq_true rfl) dd_MO_mourner_13 ⟨Nat.le_refl _, Nat.le_refl _⟩ (fun H locs hP hS => ?_)
    refine lv_if_eq (tgt := 29) hx hb dd_MO_mourner_16 (by decide) (fun h_11 => ?_) (fun h_11 => ?_)
    · have hf := (if_pos h_11).symm.trans hf
      refine lv_aload_n hx hb dd_MO_mourner_29 rfl (lv_at hl 0 rfl) ?_
      obtain ⟨r_12, x_13, c_14, hf⟩ := of_bnd hf
      refine cl_MO_72 C0 hap ho_v0 c_14 hP hS ⟨Nat.le_of_ble_eq_true rfl, Nat.le_of_ble_eq_true rfl⟩ hl.1 (Nat.le_of_ble_eq_true rfl) dd_MO_mourner_30 ⟨Nat.le_refl _, Nat.le_refl _⟩ (fun H locs hP hS => ?_)
      exact rrI C0 hP hS dd_MO_mourner_33 hf
    · have hf := (if_neg h_11).symm.trans hf
      refine lv_iload_n hx hb dd_MO_mourner_19 rfl (lv_at hl 3 rfl) ?_
      refine lv_iconst (v := 0) hx hb dd_MO_mourner_20 (by decide) ?_
      refine lv_bipush (v := 99) hx hb dd_MO_mourner_21 (by decide) ?_
      obtain ⟨r_15, x_16, c_17, hf⟩ := of_bnd hf
      refine cl_MO_64 C0 hap  c_17 hP hS ⟨Nat.le_of_ble_eq_true rfl, Nat.le_of_ble_eq_true rfl⟩ hl.1 (Nat.le_of_ble_eq_true rfl) dd_MO_mourner_23 ⟨Nat.le_refl _, Nat.le_refl _⟩ (fun H locs hP hS => ?_)
      refine lv_if_ne (tgt := 34) hx hb dd_MO_mourner_26 (by decide) (fun h_18 => ?_) (fun h_18 => ?_)
      · have hf := (if_neg h_18).symm.trans hf
        refine lv_aload_n hx hb dd_MO_mourner_34 rfl (lv_at hl 0 rfl) ?_
        refine lv_iconst (v := 0) hx hb dd_MO_mourner_35 (by decide) ?_
        obtain ⟨r_19, x_20, c_21, hf⟩ := of_bnd hf
        refine cl_MO_60 C0 hap ho_v0 c_21 hP hS ⟨Nat.le_of_ble_eq_true rfl, Nat.le_of_ble_eq_true rfl⟩ hl.1 (Nat.le_of_ble_eq_true rfl) dd_MO_mourner_36 ⟨Nat.le_refl _, Nat.le_refl _⟩ (fun H locs hP hS => ?_)
        refine lv_bipush (v := 6) hx hb dd_MO_mourner_39 (by decide) ?_
        refine lv_icmp_ne (tgt := 49) hx hb dd_MO_mourner_41 (by decide) (fun h_22 => ?_) (fun h_22 => ?_)
        · have hf := (if_neg h_22).symm.trans hf
          refine lv_aload_n hx hb dd_MO_mourner_49 rfl (lv_at hl 0 rfl) ?_
          refine lv_iload_n hx hb dd_MO_mourner_50 rfl (lv_at hl 1 rfl) ?_
          refine lv_iload_n hx hb dd_MO_mourner_51 rfl (lv_at hl 2 rfl) ?_
          refine lv_iload_n hx hb dd_MO_mourner_52 rfl (lv_at hl 3 rfl) ?_
          obtain ⟨_, x_24, c_25, hf⟩ := of_bnd hf
          refine cl_MO_79 C0 hap ho_v0 c_25 hP hS ⟨Nat.le_of_ble_eq_true rfl, Nat.le_of_ble_eq_true rfl⟩ hl.1 (Nat.le_of_ble_eq_true rfl) dd_MO_mourner_53 ⟨Nat.le_refl _, Nat.le_refl _⟩ (fun H locs hP hS => ?_)
          refine lv_aload_n hx hb dd_MO_mourner_56 rfl (lv_at hl 0 rfl) ?_
          refine lv_iconst (v := 0) hx hb dd_MO_mourner_57 (by decide) ?_
          obtain ⟨r_26, x_27, c_28, hf⟩ := of_bnd hf
          refine cl_MO_60 C0 hap ho_v0 c_28 hP hS ⟨Nat.le_of_ble_eq_true rfl, Nat.le_of_ble_eq_true rfl⟩ hl.1 (Nat.le_of_ble_eq_true rfl) dd_MO_mourner_58 ⟨Nat.le_refl _, Nat.le_refl _⟩ (fun H locs hP hS => ?_)
          refine lv_iconst (v := 1) hx hb dd_MO_mourner_61 (by decide) ?_
          refine lv_isub hx hb dd_MO_mourner_62 ?_
          exact rrI C0 hP hS dd_MO_mourner_63 hf
        · have hf := (if_pos h_22).symm.trans hf
          refine lv_aload_n hx hb dd_MO_mourner_44 rfl (lv_at hl 0 rfl) ?_
          obtain ⟨r_29, x_30, c_31, hf⟩ := of_bnd hf
          refine cl_MO_76 C0 hap ho_v0 c_31 hP hS ⟨Nat.le_of_ble_eq_true rfl, Nat.le_of_ble_eq_true rfl⟩ hl.1 (Nat.le_of_ble_eq_true rfl) dd_MO_mourner_45 ⟨Nat.le_refl _, Nat.le_refl _⟩ (fun H locs hP hS => ?_)
          exact rrI C0 hP hS dd_MO_mourner_48 hf
      · have hf := (if_pos h_18).symm.trans hf
        refine lv_aload_n hx hb dd_MO_mourner_29 rfl (lv_at hl 0 rfl) ?_
        obtain ⟨r_32, x_33, c_34, hf⟩ := of_bnd hf
        refine cl_MO_72 C0 hap ho_v0 c_34 hP hS ⟨Nat.le_of_ble_eq_true rfl, Nat.le_of_ble_eq_true rfl⟩ hl.1 (Nat.le_of_ble_eq_true rfl) dd_MO_mourner_30 ⟨Nat.le_refl _, Nat.le_refl _⟩ (fun H locs hP hS => ?_)
        exact rrI C0 hP hS dd_MO_mourner_33 hf
theorem cc_MO_mourner {l : Launch} {E : Ev} {A : Nat → Prop} {ad : Nat → Nat} (hap : Ap ad ixM A) {x x' : St} {v0 : Nat} {v1 : Int32} {v2 : Int32} {v3 : Int32} {r : Int32} (ho_v0 : isO ixM v0 6) (hf : ff_MO_mourner x v0 v1 v2 v3 = some (r, x')) : Met l yy_MO_mourner (Cond.code yy_MO_mourner bb_MO_mourner 4 (some .int) :: gtb) rm_MO_mourner (va_Pc [.ref (ad v0), .int v1, .int v2, .int v3] (PB E A ad ixM x)) (QX E ad ixM A (some (.int r)) x') 0 0 A := by
  exact enter (by decide) (Nat.le_of_ble_eq_true rfl) (fun p e s m below meth c ls C0 hP hS hl => ww_MO_mourner C0 hap ho_v0 hf hP hS hl)
theorem cl_MO_83 {p : Program} {l : Launch} {e : Env} {R : Room} {s : State} {m : MethodId} {args : Array Value} {below : List Frame} {meth : Method} {c : Code} {H : Heap} {locs : List Loc} {cells slots : Nat} {Q : State → Prop} {cc : ByteArray} {pc : Nat} {ls : Array Slot} {rest : List Value} {E : Ev} {A : Nat → Prop} {ad : Nat → Nat} {nL : Nat} {rt : Option FieldType} (C0 : Cx E A RMO cc nL rt p s m args meth c) (hap : Ap ad ixM A) {x x' : St} {v0 : Nat} {v1 : Int32} {r : Unit} (ho_v0 : isO ixM v0 6) (hc : ff_MO_addJoint x v0 v1 = some (r, x')) (hP : Wd E ad ixM x H) (hS : va_S A s.heap H locs) (hR : rm_MO_addJoint.frames + 1 ≤ R.frames ∧ 8 + (3 + 11) + rm_MO_addJoint.locals ≤ R.locals) (hls : ls.size = nL) (hroom : (rest.map fun v => v.category).sum ≤ 8) (hdg : decode cc pc = .ok (.invokevirtual 83, 3)) (hf : cells ≤ R.cells ∧ slots ≤ R.slots) (kk : ∀ H1 locs1, Wd E ad ixM x' H1 → va_S A s.heap H1 locs1 → W p l e R s m args below meth c H1 locs1 cells slots Q (F0 m (pc + 3) ls (rest))) : W p l e R s m args below meth c H locs cells slots Q (F0 m pc ls (.int v1 :: .ref (ad v0) :: rest)) :=
  rcV (n := 1) C0 (cc_MO_addJoint hap ho_v0 hc) hP hS ho_v0 vcl_6 (by decide) gw_code_MO_addJoint gw_m_MO_83 gw_inst_MO_addJoint gw_sel_MO_addJoint gw_ini_MO rfl rfl (by decide +kernel) rfl hR hls rfl hroom hdg hf (fun H1 locs1 a _ _ b => kk H1 locs1 a b)
abbrev rm_MO_joint : Room := { frames := 2, cells := 0, slots := 0, locals := 44 }
theorem dd_MO_joint_0 : decode bb_MO_joint 0 = .ok (.iload_n 1, 1) := by decide +kernel
theorem dd_MO_joint_1 : decode bb_MO_joint 1 = .ok (.iconst 0, 1) := by decide +kernel
theorem dd_MO_joint_2 : decode bb_MO_joint 2 = .ok (.bipush 99, 2) := by decide +kernel
theorem dd_MO_joint_4 : decode bb_MO_joint 4 = .ok (.invokestatic 64, 3) := by decide +kernel
theorem dd_MO_joint_7 : decode bb_MO_joint 7 = .ok (.ifCond .ne 8, 3) := by decide +kernel
theorem dd_MO_joint_10 : decode bb_MO_joint 10 = .ok (.aload_n 0, 1) := by decide +kernel
theorem dd_MO_joint_11 : decode bb_MO_joint 11 = .ok (.invokevirtual 72, 3) := by decide +kernel
theorem dd_MO_joint_14 : decode bb_MO_joint 14 = .ok (.ireturn, 1) := by decide +kernel
theorem dd_MO_joint_15 : decode bb_MO_joint 15 = .ok (.aload_n 0, 1) := by decide +kernel
theorem dd_MO_joint_16 : decode bb_MO_joint 16 = .ok (.iconst 1, 1) := by decide +kernel
theorem dd_MO_joint_17 : decode bb_MO_joint 17 = .ok (.invokevirtual 60, 3) := by decide +kernel
theorem dd_MO_joint_20 : decode bb_MO_joint 20 = .ok (.bipush 6, 2) := by decide +kernel
theorem dd_MO_joint_22 : decode bb_MO_joint 22 = .ok (.if_icmp .ne 8, 3) := by decide +kernel
theorem dd_MO_joint_25 : decode bb_MO_joint 25 = .ok (.aload_n 0, 1) := by decide +kernel
theorem dd_MO_joint_26 : decode bb_MO_joint 26 = .ok (.invokevirtual 76, 3) := by decide +kernel
theorem dd_MO_joint_29 : decode bb_MO_joint 29 = .ok (.ireturn, 1) := by decide +kernel
theorem dd_MO_joint_30 : decode bb_MO_joint 30 = .ok (.aload_n 0, 1) := by decide +kernel
theorem dd_MO_joint_31 : decode bb_MO_joint 31 = .ok (.iload_n 1, 1) := by decide +kernel
theorem dd_MO_joint_32 : decode bb_MO_joint 32 = .ok (.invokevirtual 83, 3) := by decide +kernel
theorem dd_MO_joint_35 : decode bb_MO_joint 35 = .ok (.aload_n 0, 1) := by decide +kernel
theorem dd_MO_joint_36 : decode bb_MO_joint 36 = .ok (.iconst 1, 1) := by decide +kernel
theorem dd_MO_joint_37 : decode bb_MO_joint 37 = .ok (.invokevirtual 60, 3) := by decide +kernel
theorem dd_MO_joint_40 : decode bb_MO_joint 40 = .ok (.iconst 1, 1) := by decide +kernel
theorem dd_MO_joint_41 : decode bb_MO_joint 41 = .ok (.isub, 1) := by decide +kernel
theorem dd_MO_joint_42 : decode bb_MO_joint 42 = .ok (.ireturn, 1) := by decide +kernel
def ff_MO_joint  (x : St) (v0 : Nat) (v1 : Int32) : Option (Int32 × St) := bnd (ff_MO_in x v1 0 99) (fun r_1 x_2 => (if r_1 = 0 then bnd (ff_MO_bad x_2 v0) (fun r_18 x_19 => some (r_18, x_19)) else bnd (ff_MO_get x_2 v0 1) (fun r_5 x_6 => (if r_5 = 6 then bnd (ff_MO_full x_6 v0) (fun r_15 x_16 => some (r_15, x_16)) else bnd (ff_MO_addJoint x_6 v0 v1) (fun _ x_10 => bnd (ff_MO_get x_10 v0 1) (fun r_12 x_13 => some (r_12 - 1, x_13)))))))
set_option maxHeartbeats 4000000 in
set_option maxRecDepth 100000 in
theorem ww_MO_joint {p : Program} {l : Launch} {e : Env} {s : State} {m : MethodId} {args : Array Value} {below : List Frame} {meth : Method} {c : Code} {E : Ev} {A : Nat → Prop} {ad : Nat → Nat} {r : Int32} {x' : St} (C0 : Cx E A RMO bb_MO_joint 2 (some .int) p s m args meth c) (hap : Ap ad ixM A)  {x : St} {v0 : Nat} {v1 : Int32} (ho_v0 : isO ixM v0 6) (hf : ff_MO_joint x v0 v1 = some (r, x')) {H : Heap} {locs : List Loc} {ls : Array Slot} (hP : Wd E ad ixM x H) (hS : va_S A s.heap H locs) (hl : lv_has ls 2 [(0, .ref (ad v0)), (1, .int v1)]) : W p l e rm_MO_joint s m args below meth c H locs 0 0 (MQ below (QX E ad ixM A (some (.int r)) x') args s 0 0 A) (F0 m 0 ls []) := by
  obtain ⟨hx, hb, hml, hr, hown, hts, hlk, hK⟩ := id C0
  have hf : bnd (ff_MO_in x v1 0 99) (fun r_1 x_2 => (if r_1 = 0 then bnd (ff_MO_bad x_2 v0) (fun r_18 x_19 => some (r_18, x_19)) else bnd (ff_MO_get x_2 v0 1) (fun r_5 x_6 => (if r_5 = 6 then bnd (ff_MO_full x_6 v0) (fun r_15 x_16 => some (r_15, x_16)) else bnd (ff_MO_addJoint x_6 v0 v1) (fun _ x_10 => bnd (ff_MO_get x_10 v0 1) (fun r_12 x_13 => some (r_12 - 1, x_13))))))) = some (r, x') := hf
  refine lv_iload_n hx hb dd_MO_joint_0 rfl (lv_at hl 1 rfl) ?_
  refine lv_iconst (v := 0) hx hb dd_MO_joint_1 (by decide) ?_
  refine lv_bipush (v := 99) hx hb dd_MO_joint_2 (by decide) ?_
  obtain ⟨r_1, x_2, c_3, hf⟩ := of_bnd hf
  refine cl_MO_64 C0 hap  c_3 hP hS ⟨Nat.le_of_ble_eq_true rfl, Nat.le_of_ble_eq_true rfl⟩ hl.1 (Nat.le_of_ble_eq_true rfl) dd_MO_joint_4 ⟨Nat.le_refl _, Nat.le_refl _⟩ (fun H locs hP hS => ?_)
  refine lv_if_ne (tgt := 15) hx hb dd_MO_joint_7 (by decide) (fun h_4 => ?_) (fun h_4 => ?_)
  · have hf := (if_neg h_4).symm.trans hf
    refine lv_aload_n hx hb dd_MO_joint_15 rfl (lv_at hl 0 rfl) ?_
    refine lv_iconst (v := 1) hx hb dd_MO_joint_16 (by decide) ?_
    obtain ⟨r_5, x_6, c_7, hf⟩ := of_bnd hf
    refine cl_MO_60 C0 hap ho_v0 c_7 hP hS ⟨Nat.le_of_ble_eq_true rfl, Nat.le_of_ble_eq_true rfl⟩ hl.1 (Nat.le_of_ble_eq_true rfl) dd_MO_joint_17 ⟨Nat.le_refl _, Nat.le_refl _⟩ (fun H locs hP hS => ?_)
    refine lv_bipush (v := 6) hx hb dd_MO_joint_20 (by decide) ?_
    refine lv_icmp_ne (tgt := 30) hx hb dd_MO_joint_22 (by decide) (fun h_8 => ?_) (fun h_8 => ?_)
    · have hf := (if_neg h_8).symm.trans hf
      refine lv_aload_n hx hb dd_MO_joint_30 rfl (lv_at hl 0 rfl) ?_
      refine lv_iload_n hx hb dd_MO_joint_31 rfl (lv_at hl 1 rfl) ?_
      obtain ⟨_, x_10, c_11, hf⟩ := of_bnd hf
      refine cl_MO_83 C0 hap ho_v0 c_11 hP hS ⟨Nat.le_of_ble_eq_true rfl, Nat.le_of_ble_eq_true rfl⟩ hl.1 (Nat.le_of_ble_eq_true rfl) dd_MO_joint_32 ⟨Nat.le_refl _, Nat.le_refl _⟩ (fun H locs hP hS => ?_)
      refine lv_aload_n hx hb dd_MO_joint_35 rfl (lv_at hl 0 rfl) ?_
      refine lv_iconst (v := 1) hx hb dd_MO_joint_36 (by decide) ?_
      obtain ⟨r_12, x_13, c_14, hf⟩ := of_bnd hf
      refine cl_MO_60 C0 hap ho_v0 c_14 hP hS ⟨Nat.le_of_ble_eq_true rfl, Nat.le_of_ble_eq_true rfl⟩ hl.1 (Nat.le_of_ble_eq_true rfl) dd_MO_joint_37 ⟨Nat.le_refl _, Nat.le_refl _⟩ (fun H locs hP hS => ?_)
      refine lv_iconst (v := 1) hx hb dd_MO_joint_40 (by decide) ?_
      refine lv_isub hx hb dd_MO_joint_41 ?_
      exact rrI C0 hP hS dd_MO_joint_42 hf
    · have hf := (if_pos h_8).symm.trans hf
      refine lv_aload_n hx hb dd_MO_joint_25 rfl (lv_at hl 0 rfl) ?_
      obtain ⟨r_15, x_16, c_17, hf⟩ := of_bnd hf
      refine cl_MO_76 C0 hap ho_v0 c_17 hP hS ⟨Nat.le_of_ble_eq_true rfl, Nat.le_of_ble_eq_true rfl⟩ hl.1 (Nat.le_of_ble_eq_true rfl) dd_MO_joint_26 ⟨Nat.le_refl _, Nat.le_refl _⟩ (fun H locs hP hS => ?_)
      exact rrI C0 hP hS dd_MO_joint_29 hf
  · have hf := (if_pos h_4).symm.trans hf
    refine lv_aload_n hx hb dd_MO_joint_10 rfl (lv_at hl 0 rfl) ?_
    obtain ⟨r_18, x_19, c_20, hf⟩ := of_bnd hf
    refine cl_MO_72 C0 hap ho_v0 c_20 hP hS ⟨Nat.le_of_ble_eq_true rfl, Nat.le_of_ble_eq_true rfl⟩ hl.1 (Nat.le_of_ble_eq_true rfl) dd_MO_joint_11 ⟨Nat.le_refl _, Nat.le_refl _⟩ (fun H locs hP hS => ?_)
    exact rrI C0 hP hS dd_MO_joint_14 hf
theorem cc_MO_joint {l : Launch} {E : Ev} {A : Nat → Prop} {ad : Nat → Nat} (hap : Ap ad ixM A) {x x' : St} {v0 : Nat} {v1 : Int32} {r : Int32} (ho_v0 : isO ixM v0 6) (hf : ff_MO_joint x v0 v1 = some (r, x')) : Met l yy_MO_joint (Cond.code yy_MO_joint bb_MO_joint 2 (some .int) :: gtb) rm_MO_joint (va_Pc [.ref (ad v0), .int v1] (PB E A ad ixM x)) (QX E ad ixM A (some (.int r)) x') 0 0 A := by
  exact enter (by decide) (Nat.le_of_ble_eq_true rfl) (fun p e s m below meth c ls C0 hP hS hl => ww_MO_joint C0 hap ho_v0 hf hP hS hl)
theorem cl_MO_87 {p : Program} {l : Launch} {e : Env} {R : Room} {s : State} {m : MethodId} {args : Array Value} {below : List Frame} {meth : Method} {c : Code} {H : Heap} {locs : List Loc} {cells slots : Nat} {Q : State → Prop} {cc : ByteArray} {pc : Nat} {ls : Array Slot} {rest : List Value} {E : Ev} {A : Nat → Prop} {ad : Nat → Nat} {nL : Nat} {rt : Option FieldType} (C0 : Cx E A RMO cc nL rt p s m args meth c) (hap : Ap ad ixM A) {x x' : St} {v0 : Nat} {v1 : Int32} {r : Int32} (ho_v0 : isO ixM v0 6) (hc : ff_MO_isSet x v0 v1 = some (r, x')) (hP : Wd E ad ixM x H) (hS : va_S A s.heap H locs) (hR : rm_MO_isSet.frames + 1 ≤ R.frames ∧ 8 + (2 + 11) + rm_MO_isSet.locals ≤ R.locals) (hls : ls.size = nL) (hroom : (rest.map fun v => v.category).sum ≤ 8) (hdg : decode cc pc = .ok (.invokevirtual 87, 3)) (hf : cells ≤ R.cells ∧ slots ≤ R.slots) (kk : ∀ H1 locs1, Wd E ad ixM x' H1 → va_S A s.heap H1 locs1 → W p l e R s m args below meth c H1 locs1 cells slots Q (F0 m (pc + 3) ls (.int r :: rest))) : W p l e R s m args below meth c H locs cells slots Q (F0 m pc ls (.int v1 :: .ref (ad v0) :: rest)) :=
  rcV (n := 1) C0 (cc_MO_isSet hap ho_v0 hc) hP hS ho_v0 vcl_6 (by decide) gw_code_MO_isSet gw_m_MO_87 gw_inst_MO_isSet gw_sel_MO_isSet gw_ini_MO rfl rfl (by decide +kernel) rfl hR hls rfl hroom hdg hf (fun H1 locs1 a _ _ b => kk H1 locs1 a b)
theorem cl_MO_91 {p : Program} {l : Launch} {e : Env} {R : Room} {s : State} {m : MethodId} {args : Array Value} {below : List Frame} {meth : Method} {c : Code} {H : Heap} {locs : List Loc} {cells slots : Nat} {Q : State → Prop} {cc : ByteArray} {pc : Nat} {ls : Array Slot} {rest : List Value} {E : Ev} {A : Nat → Prop} {ad : Nat → Nat} {nL : Nat} {rt : Option FieldType} (C0 : Cx E A RMO cc nL rt p s m args meth c) (hap : Ap ad ixM A) {x x' : St} {v0 : Nat} {v1 : Int32} {v2 : Int32} {r : Unit} (ho_v0 : isO ixM v0 6) (hc : ff_MO_addPiece x v0 v1 v2 = some (r, x')) (hP : Wd E ad ixM x H) (hS : va_S A s.heap H locs) (hR : rm_MO_addPiece.frames + 1 ≤ R.frames ∧ 8 + (4 + 11) + rm_MO_addPiece.locals ≤ R.locals) (hls : ls.size = nL) (hroom : (rest.map fun v => v.category).sum ≤ 8) (hdg : decode cc pc = .ok (.invokevirtual 91, 3)) (hf : cells ≤ R.cells ∧ slots ≤ R.slots) (kk : ∀ H1 locs1, Wd E ad ixM x' H1 → va_S A s.heap H1 locs1 → W p l e R s m args below meth c H1 locs1 cells slots Q (F0 m (pc + 3) ls (rest))) : W p l e R s m args below meth c H locs cells slots Q (F0 m pc ls (.int v2 :: .int v1 :: .ref (ad v0) :: rest)) :=
  rcV (n := 2) C0 (cc_MO_addPiece hap ho_v0 hc) hP hS ho_v0 vcl_6 (by decide) gw_code_MO_addPiece gw_m_MO_91 gw_inst_MO_addPiece gw_sel_MO_addPiece gw_ini_MO rfl rfl (by decide +kernel) rfl hR hls rfl hroom hdg hf (fun H1 locs1 a _ _ b => kk H1 locs1 a b)
abbrev rm_MO_piece : Room := { frames := 2, cells := 0, slots := 0, locals := 45 }
theorem dd_MO_piece_0 : decode bb_MO_piece 0 = .ok (.aload_n 0, 1) := by decide +kernel
theorem dd_MO_piece_1 : decode bb_MO_piece 1 = .ok (.iload_n 1, 1) := by decide +kernel
theorem dd_MO_piece_2 : decode bb_MO_piece 2 = .ok (.invokevirtual 87, 3) := by decide +kernel
theorem dd_MO_piece_5 : decode bb_MO_piece 5 = .ok (.ifCond .eq 13, 3) := by decide +kernel
theorem dd_MO_piece_8 : decode bb_MO_piece 8 = .ok (.iload_n 2, 1) := by decide +kernel
theorem dd_MO_piece_9 : decode bb_MO_piece 9 = .ok (.iconst 0, 1) := by decide +kernel
theorem dd_MO_piece_10 : decode bb_MO_piece 10 = .ok (.bipush 99, 2) := by decide +kernel
theorem dd_MO_piece_12 : decode bb_MO_piece 12 = .ok (.invokestatic 64, 3) := by decide +kernel
theorem dd_MO_piece_15 : decode bb_MO_piece 15 = .ok (.ifCond .ne 8, 3) := by decide +kernel
theorem dd_MO_piece_18 : decode bb_MO_piece 18 = .ok (.aload_n 0, 1) := by decide +kernel
theorem dd_MO_piece_19 : decode bb_MO_piece 19 = .ok (.invokevirtual 72, 3) := by decide +kernel
theorem dd_MO_piece_22 : decode bb_MO_piece 22 = .ok (.ireturn, 1) := by decide +kernel
theorem dd_MO_piece_23 : decode bb_MO_piece 23 = .ok (.aload_n 0, 1) := by decide +kernel
theorem dd_MO_piece_24 : decode bb_MO_piece 24 = .ok (.iconst 2, 1) := by decide +kernel
theorem dd_MO_piece_25 : decode bb_MO_piece 25 = .ok (.invokevirtual 60, 3) := by decide +kernel
theorem dd_MO_piece_28 : decode bb_MO_piece 28 = .ok (.iconst 4, 1) := by decide +kernel
theorem dd_MO_piece_29 : decode bb_MO_piece 29 = .ok (.if_icmp .ne 8, 3) := by decide +kernel
theorem dd_MO_piece_32 : decode bb_MO_piece 32 = .ok (.aload_n 0, 1) := by decide +kernel
theorem dd_MO_piece_33 : decode bb_MO_piece 33 = .ok (.invokevirtual 76, 3) := by decide +kernel
theorem dd_MO_piece_36 : decode bb_MO_piece 36 = .ok (.ireturn, 1) := by decide +kernel
theorem dd_MO_piece_37 : decode bb_MO_piece 37 = .ok (.aload_n 0, 1) := by decide +kernel
theorem dd_MO_piece_38 : decode bb_MO_piece 38 = .ok (.iload_n 1, 1) := by decide +kernel
theorem dd_MO_piece_39 : decode bb_MO_piece 39 = .ok (.iload_n 2, 1) := by decide +kernel
theorem dd_MO_piece_40 : decode bb_MO_piece 40 = .ok (.invokevirtual 91, 3) := by decide +kernel
theorem dd_MO_piece_43 : decode bb_MO_piece 43 = .ok (.aload_n 0, 1) := by decide +kernel
theorem dd_MO_piece_44 : decode bb_MO_piece 44 = .ok (.iconst 2, 1) := by decide +kernel
theorem dd_MO_piece_45 : decode bb_MO_piece 45 = .ok (.invokevirtual 60, 3) := by decide +kernel
theorem dd_MO_piece_48 : decode bb_MO_piece 48 = .ok (.iconst 1, 1) := by decide +kernel
theorem dd_MO_piece_49 : decode bb_MO_piece 49 = .ok (.isub, 1) := by decide +kernel
theorem dd_MO_piece_50 : decode bb_MO_piece 50 = .ok (.ireturn, 1) := by decide +kernel
def ff_MO_piece  (x : St) (v0 : Nat) (v1 : Int32) (v2 : Int32) : Option (Int32 × St) := bnd (ff_MO_isSet x v0 v1) (fun r_1 x_2 => (if r_1 = 0 then bnd (ff_MO_bad x_2 v0) (fun r_5 x_6 => some (r_5, x_6)) else bnd (ff_MO_in x_2 v2 0 99) (fun r_8 x_9 => (if r_8 = 0 then bnd (ff_MO_bad x_9 v0) (fun r_25 x_26 => some (r_25, x_26)) else bnd (ff_MO_get x_9 v0 2) (fun r_12 x_13 => (if r_12 = 4 then bnd (ff_MO_full x_13 v0) (fun r_22 x_23 => some (r_22, x_23)) else bnd (ff_MO_addPiece x_13 v0 v1 v2) (fun _ x_17 => bnd (ff_MO_get x_17 v0 2) (fun r_19 x_20 => some (r_19 - 1, x_20)))))))))
set_option maxHeartbeats 4000000 in
set_option maxRecDepth 100000 in
theorem ww_MO_piece {p : Program} {l : Launch} {e : Env} {s : State} {m : MethodId} {args : Array Value} {below : List Frame} {meth : Method} {c : Code} {E : Ev} {A : Nat → Prop} {ad : Nat → Nat} {r : Int32} {x' : St} (C0 : Cx E A RMO bb_MO_piece 3 (some .int) p s m args meth c) (hap : Ap ad ixM A)  {x : St} {v0 : Nat} {v1 : Int32} {v2 : Int32} (ho_v0 : isO ixM v0 6) (hf : ff_MO_piece x v0 v1 v2 = some (r, x')) {H : Heap} {locs : List Loc} {ls : Array Slot} (hP : Wd E ad ixM x H) (hS : va_S A s.heap H locs) (hl : lv_has ls 3 [(0, .ref (ad v0)), (1, .int v1), (2, .int v2)]) : W p l e rm_MO_piece s m args below meth c H locs 0 0 (MQ below (QX E ad ixM A (some (.int r)) x') args s 0 0 A) (F0 m 0 ls []) := by
  obtain ⟨hx, hb, hml, hr, hown, hts, hlk, hK⟩ := id C0
  have hf : bnd (ff_MO_isSet x v0 v1) (fun r_1 x_2 => (if r_1 = 0 then bnd (ff_MO_bad x_2 v0) (fun r_5 x_6 => some (r_5, x_6)) else bnd (ff_MO_in x_2 v2 0 99) (fun r_8 x_9 => (if r_8 = 0 then bnd (ff_MO_bad x_9 v0) (fun r_25 x_26 => some (r_25, x_26)) else bnd (ff_MO_get x_9 v0 2) (fun r_12 x_13 => (if r_12 = 4 then bnd (ff_MO_full x_13 v0) (fun r_22 x_23 => some (r_22, x_23)) else bnd (ff_MO_addPiece x_13 v0 v1 v2) (fun _ x_17 => bnd (ff_MO_get x_17 v0 2) (fun r_19 x_20 => some (r_19 - 1, x_20))))))))) = some (r, x') := hf
  refine lv_aload_n hx hb dd_MO_piece_0 rfl (lv_at hl 0 rfl) ?_
  refine lv_iload_n hx hb dd_MO_piece_1 rfl (lv_at hl 1 rfl) ?_
  obtain ⟨r_1, x_2, c_3, hf⟩ := of_bnd hf
  refine cl_MO_87 C0 hap ho_v0 c_3 hP hS ⟨Nat.le_of_ble_eq_true rfl, Nat.le_of_ble_eq_true rfl⟩ hl.1 (Nat.le_of_ble_eq_true rfl) dd_MO_piece_2 ⟨Nat.le_refl _, Nat.le_refl _⟩ (fun H locs hP hS => ?_)
  refine lv_if_eq (tgt := 18) hx hb dd_MO_piece_5 (by decide) (fun h_4 => ?_) (fun h_4 => ?_)
  · have hf := (if_pos h_4).symm.trans hf
    refine lv_aload_n hx hb dd_MO_piece_18 rfl (lv_at hl 0 rfl) ?_
    obtain ⟨r_5, x_6, c_7, hf⟩ := of_bnd hf
    refine cl_MO_72 C0 hap ho_v0 c_7 hP hS ⟨Nat.le_of_ble_eq_true rfl, Nat.le_of_ble_eq_true rfl⟩ hl.1 (Nat.le_of_ble_eq_true rfl) dd_MO_piece_19 ⟨Nat.le_refl _, Nat.le_refl _⟩ (fun H locs hP hS => ?_)
    exact rrI C0 hP hS dd_MO_piece_22 hf
  · have hf := (if_neg h_4).symm.trans hf
    refine lv_iload_n hx hb dd_MO_piece_8 rfl (lv_at hl 2 rfl) ?_
    refine lv_iconst (v := 0) hx hb dd_MO_piece_9 (by decide) ?_
    refine lv_bipush (v := 99) hx hb dd_MO_piece_10 (by decide) ?_
    obtain ⟨r_8, x_9, c_10, hf⟩ := of_bnd hf
    refine cl_MO_64 C0 hap  c_10 hP hS ⟨Nat.le_of_ble_eq_true rfl, Nat.le_of_ble_eq_true rfl⟩ hl.1 (Nat.le_of_ble_eq_true rfl) dd_MO_piece_12 ⟨Nat.le_refl _, Nat.le_refl _⟩ (fun H locs hP hS => ?_)
    refine lv_if_ne (tgt := 23) hx hb dd_MO_piece_15 (by decide) (fun h_11 => ?_) (fun h_11 => ?_)
    · have hf := (if_neg h_11).symm.trans hf
      refine lv_aload_n hx hb dd_MO_piece_23 rfl (lv_at hl 0 rfl) ?_
      refine lv_iconst (v := 2) hx hb dd_MO_piece_24 (by decide) ?_
      obtain ⟨r_12, x_13, c_14, hf⟩ := of_bnd hf
      refine cl_MO_60 C0 hap ho_v0 c_14 hP hS ⟨Nat.le_of_ble_eq_true rfl, Nat.le_of_ble_eq_true rfl⟩ hl.1 (Nat.le_of_ble_eq_true rfl) dd_MO_piece_25 ⟨Nat.le_refl _, Nat.le_refl _⟩ (fun H locs hP hS => ?_)
      refine lv_iconst (v := 4) hx hb dd_MO_piece_28 (by decide) ?_
      refine lv_icmp_ne (tgt := 37) hx hb dd_MO_piece_29 (by decide) (fun h_15 => ?_) (fun h_15 => ?_)
      · have hf := (if_neg h_15).symm.trans hf
        refine lv_aload_n hx hb dd_MO_piece_37 rfl (lv_at hl 0 rfl) ?_
        refine lv_iload_n hx hb dd_MO_piece_38 rfl (lv_at hl 1 rfl) ?_
        refine lv_iload_n hx hb dd_MO_piece_39 rfl (lv_at hl 2 rfl) ?_
        obtain ⟨_, x_17, c_18, hf⟩ := of_bnd hf
        refine cl_MO_91 C0 hap ho_v0 c_18 hP hS ⟨Nat.le_of_ble_eq_true rfl, Nat.le_of_ble_eq_true rfl⟩ hl.1 (Nat.le_of_ble_eq_true rfl) dd_MO_piece_40 ⟨Nat.le_refl _, Nat.le_refl _⟩ (fun H locs hP hS => ?_)
        refine lv_aload_n hx hb dd_MO_piece_43 rfl (lv_at hl 0 rfl) ?_
        refine lv_iconst (v := 2) hx hb dd_MO_piece_44 (by decide) ?_
        obtain ⟨r_19, x_20, c_21, hf⟩ := of_bnd hf
        refine cl_MO_60 C0 hap ho_v0 c_21 hP hS ⟨Nat.le_of_ble_eq_true rfl, Nat.le_of_ble_eq_true rfl⟩ hl.1 (Nat.le_of_ble_eq_true rfl) dd_MO_piece_45 ⟨Nat.le_refl _, Nat.le_refl _⟩ (fun H locs hP hS => ?_)
        refine lv_iconst (v := 1) hx hb dd_MO_piece_48 (by decide) ?_
        refine lv_isub hx hb dd_MO_piece_49 ?_
        exact rrI C0 hP hS dd_MO_piece_50 hf
      · have hf := (if_pos h_15).symm.trans hf
        refine lv_aload_n hx hb dd_MO_piece_32 rfl (lv_at hl 0 rfl) ?_
        obtain ⟨r_22, x_23, c_24, hf⟩ := of_bnd hf
        refine cl_MO_76 C0 hap ho_v0 c_24 hP hS ⟨Nat.le_of_ble_eq_true rfl, Nat.le_of_ble_eq_true rfl⟩ hl.1 (Nat.le_of_ble_eq_true rfl) dd_MO_piece_33 ⟨Nat.le_refl _, Nat.le_refl _⟩ (fun H locs hP hS => ?_)
        exact rrI C0 hP hS dd_MO_piece_36 hf
    · have hf := (if_pos h_11).symm.trans hf
      refine lv_aload_n hx hb dd_MO_piece_18 rfl (lv_at hl 0 rfl) ?_
      obtain ⟨r_25, x_26, c_27, hf⟩ := of_bnd hf
      refine cl_MO_72 C0 hap ho_v0 c_27 hP hS ⟨Nat.le_of_ble_eq_true rfl, Nat.le_of_ble_eq_true rfl⟩ hl.1 (Nat.le_of_ble_eq_true rfl) dd_MO_piece_19 ⟨Nat.le_refl _, Nat.le_refl _⟩ (fun H locs hP hS => ?_)
      exact rrI C0 hP hS dd_MO_piece_22 hf
theorem cc_MO_piece {l : Launch} {E : Ev} {A : Nat → Prop} {ad : Nat → Nat} (hap : Ap ad ixM A) {x x' : St} {v0 : Nat} {v1 : Int32} {v2 : Int32} {r : Int32} (ho_v0 : isO ixM v0 6) (hf : ff_MO_piece x v0 v1 v2 = some (r, x')) : Met l yy_MO_piece (Cond.code yy_MO_piece bb_MO_piece 3 (some .int) :: gtb) rm_MO_piece (va_Pc [.ref (ad v0), .int v1, .int v2] (PB E A ad ixM x)) (QX E ad ixM A (some (.int r)) x') 0 0 A := by
  exact enter (by decide) (Nat.le_of_ble_eq_true rfl) (fun p e s m below meth c ls C0 hP hS hl => ww_MO_piece C0 hap ho_v0 hf hP hS hl)
theorem cl_MO_94 {p : Program} {l : Launch} {e : Env} {R : Room} {s : State} {m : MethodId} {args : Array Value} {below : List Frame} {meth : Method} {c : Code} {H : Heap} {locs : List Loc} {cells slots : Nat} {Q : State → Prop} {cc : ByteArray} {pc : Nat} {ls : Array Slot} {rest : List Value} {E : Ev} {A : Nat → Prop} {ad : Nat → Nat} {nL : Nat} {rt : Option FieldType} (C0 : Cx E A RMO cc nL rt p s m args meth c) (hap : Ap ad ixM A) {x x' : St} {v0 : Nat} {v1 : Int32} {r : Int32} (ho_v0 : isO ixM v0 6) (hc : ff_MO_isMourner x v0 v1 = some (r, x')) (hP : Wd E ad ixM x H) (hS : va_S A s.heap H locs) (hR : rm_MO_isMourner.frames + 1 ≤ R.frames ∧ 8 + (2 + 11) + rm_MO_isMourner.locals ≤ R.locals) (hls : ls.size = nL) (hroom : (rest.map fun v => v.category).sum ≤ 8) (hdg : decode cc pc = .ok (.invokevirtual 94, 3)) (hf : cells ≤ R.cells ∧ slots ≤ R.slots) (kk : ∀ H1 locs1, Wd E ad ixM x' H1 → va_S A s.heap H1 locs1 → W p l e R s m args below meth c H1 locs1 cells slots Q (F0 m (pc + 3) ls (.int r :: rest))) : W p l e R s m args below meth c H locs cells slots Q (F0 m pc ls (.int v1 :: .ref (ad v0) :: rest)) :=
  rcV (n := 1) C0 (cc_MO_isMourner hap ho_v0 hc) hP hS ho_v0 vcl_6 (by decide) gw_code_MO_isMourner gw_m_MO_94 gw_inst_MO_isMourner gw_sel_MO_isMourner gw_ini_MO rfl rfl (by decide +kernel) rfl hR hls rfl hroom hdg hf (fun H1 locs1 a _ _ b => kk H1 locs1 a b)
theorem cl_MO_97 {p : Program} {l : Launch} {e : Env} {R : Room} {s : State} {m : MethodId} {args : Array Value} {below : List Frame} {meth : Method} {c : Code} {H : Heap} {locs : List Loc} {cells slots : Nat} {Q : State → Prop} {cc : ByteArray} {pc : Nat} {ls : Array Slot} {rest : List Value} {E : Ev} {A : Nat → Prop} {ad : Nat → Nat} {nL : Nat} {rt : Option FieldType} (C0 : Cx E A RMO cc nL rt p s m args meth c) (hap : Ap ad ixM A) {x x' : St} {v0 : Nat} {v1 : Int32} {v2 : Int32} {v3 : Int32} {r : Unit} (ho_v0 : isO ixM v0 6) (hc : ff_MO_addFeast x v0 v1 v2 v3 = some (r, x')) (hP : Wd E ad ixM x H) (hS : va_S A s.heap H locs) (hR : rm_MO_addFeast.frames + 1 ≤ R.frames ∧ 8 + (5 + 11) + rm_MO_addFeast.locals ≤ R.locals) (hls : ls.size = nL) (hroom : (rest.map fun v => v.category).sum ≤ 8) (hdg : decode cc pc = .ok (.invokevirtual 97, 3)) (hf : cells ≤ R.cells ∧ slots ≤ R.slots) (kk : ∀ H1 locs1, Wd E ad ixM x' H1 → va_S A s.heap H1 locs1 → W p l e R s m args below meth c H1 locs1 cells slots Q (F0 m (pc + 3) ls (rest))) : W p l e R s m args below meth c H locs cells slots Q (F0 m pc ls (.int v3 :: .int v2 :: .int v1 :: .ref (ad v0) :: rest)) :=
  rcV (n := 3) C0 (cc_MO_addFeast hap ho_v0 hc) hP hS ho_v0 vcl_6 (by decide) gw_code_MO_addFeast gw_m_MO_97 gw_inst_MO_addFeast gw_sel_MO_addFeast gw_ini_MO rfl rfl (by decide +kernel) rfl hR hls rfl hroom hdg hf (fun H1 locs1 a _ _ b => kk H1 locs1 a b)
abbrev rm_MO_feast : Room := { frames := 2, cells := 0, slots := 0, locals := 46 }
theorem dd_MO_feast_0 : decode bb_MO_feast 0 = .ok (.iload_n 1, 1) := by decide +kernel
theorem dd_MO_feast_1 : decode bb_MO_feast 1 = .ok (.iconst 0, 1) := by decide +kernel
theorem dd_MO_feast_2 : decode bb_MO_feast 2 = .ok (.iconst 1, 1) := by decide +kernel
theorem dd_MO_feast_3 : decode bb_MO_feast 3 = .ok (.invokestatic 64, 3) := by decide +kernel
theorem dd_MO_feast_6 : decode bb_MO_feast 6 = .ok (.ifCond .eq 21, 3) := by decide +kernel
theorem dd_MO_feast_9 : decode bb_MO_feast 9 = .ok (.iload_n 2, 1) := by decide +kernel
theorem dd_MO_feast_10 : decode bb_MO_feast 10 = .ok (.iconst 1, 1) := by decide +kernel
theorem dd_MO_feast_11 : decode bb_MO_feast 11 = .ok (.bipush 99, 2) := by decide +kernel
theorem dd_MO_feast_13 : decode bb_MO_feast 13 = .ok (.invokestatic 64, 3) := by decide +kernel
theorem dd_MO_feast_16 : decode bb_MO_feast 16 = .ok (.ifCond .eq 11, 3) := by decide +kernel
theorem dd_MO_feast_19 : decode bb_MO_feast 19 = .ok (.aload_n 0, 1) := by decide +kernel
theorem dd_MO_feast_20 : decode bb_MO_feast 20 = .ok (.iload_n 3, 1) := by decide +kernel
theorem dd_MO_feast_21 : decode bb_MO_feast 21 = .ok (.invokevirtual 94, 3) := by decide +kernel
theorem dd_MO_feast_24 : decode bb_MO_feast 24 = .ok (.ifCond .ne 8, 3) := by decide +kernel
theorem dd_MO_feast_27 : decode bb_MO_feast 27 = .ok (.aload_n 0, 1) := by decide +kernel
theorem dd_MO_feast_28 : decode bb_MO_feast 28 = .ok (.invokevirtual 72, 3) := by decide +kernel
theorem dd_MO_feast_31 : decode bb_MO_feast 31 = .ok (.ireturn, 1) := by decide +kernel
theorem dd_MO_feast_32 : decode bb_MO_feast 32 = .ok (.aload_n 0, 1) := by decide +kernel
theorem dd_MO_feast_33 : decode bb_MO_feast 33 = .ok (.iconst 3, 1) := by decide +kernel
theorem dd_MO_feast_34 : decode bb_MO_feast 34 = .ok (.invokevirtual 60, 3) := by decide +kernel
theorem dd_MO_feast_37 : decode bb_MO_feast 37 = .ok (.bipush 10, 2) := by decide +kernel
theorem dd_MO_feast_39 : decode bb_MO_feast 39 = .ok (.if_icmp .ne 8, 3) := by decide +kernel
theorem dd_MO_feast_42 : decode bb_MO_feast 42 = .ok (.aload_n 0, 1) := by decide +kernel
theorem dd_MO_feast_43 : decode bb_MO_feast 43 = .ok (.invokevirtual 76, 3) := by decide +kernel
theorem dd_MO_feast_46 : decode bb_MO_feast 46 = .ok (.ireturn, 1) := by decide +kernel
theorem dd_MO_feast_47 : decode bb_MO_feast 47 = .ok (.aload_n 0, 1) := by decide +kernel
theorem dd_MO_feast_48 : decode bb_MO_feast 48 = .ok (.iload_n 1, 1) := by decide +kernel
theorem dd_MO_feast_49 : decode bb_MO_feast 49 = .ok (.iload_n 2, 1) := by decide +kernel
theorem dd_MO_feast_50 : decode bb_MO_feast 50 = .ok (.iload_n 3, 1) := by decide +kernel
theorem dd_MO_feast_51 : decode bb_MO_feast 51 = .ok (.invokevirtual 97, 3) := by decide +kernel
theorem dd_MO_feast_54 : decode bb_MO_feast 54 = .ok (.aload_n 0, 1) := by decide +kernel
theorem dd_MO_feast_55 : decode bb_MO_feast 55 = .ok (.iconst 3, 1) := by decide +kernel
theorem dd_MO_feast_56 : decode bb_MO_feast 56 = .ok (.invokevirtual 60, 3) := by decide +kernel
theorem dd_MO_feast_59 : decode bb_MO_feast 59 = .ok (.iconst 1, 1) := by decide +kernel
theorem dd_MO_feast_60 : decode bb_MO_feast 60 = .ok (.isub, 1) := by decide +kernel
theorem dd_MO_feast_61 : decode bb_MO_feast 61 = .ok (.ireturn, 1) := by decide +kernel
def ff_MO_feast  (x : St) (v0 : Nat) (v1 : Int32) (v2 : Int32) (v3 : Int32) : Option (Int32 × St) := bnd (ff_MO_in x v1 0 1) (fun r_1 x_2 => (if r_1 = 0 then bnd (ff_MO_bad x_2 v0) (fun r_5 x_6 => some (r_5, x_6)) else bnd (ff_MO_in x_2 v2 1 99) (fun r_8 x_9 => (if r_8 = 0 then bnd (ff_MO_bad x_9 v0) (fun r_12 x_13 => some (r_12, x_13)) else bnd (ff_MO_isMourner x_9 v0 v3) (fun r_15 x_16 => (if r_15 = 0 then bnd (ff_MO_bad x_16 v0) (fun r_32 x_33 => some (r_32, x_33)) else bnd (ff_MO_get x_16 v0 3) (fun r_19 x_20 => (if r_19 = 10 then bnd (ff_MO_full x_20 v0) (fun r_29 x_30 => some (r_29, x_30)) else bnd (ff_MO_addFeast x_20 v0 v1 v2 v3) (fun _ x_24 => bnd (ff_MO_get x_24 v0 3) (fun r_26 x_27 => some (r_26 - 1, x_27)))))))))))
set_option maxHeartbeats 4000000 in
set_option maxRecDepth 100000 in
theorem ww_MO_feast {p : Program} {l : Launch} {e : Env} {s : State} {m : MethodId} {args : Array Value} {below : List Frame} {meth : Method} {c : Code} {E : Ev} {A : Nat → Prop} {ad : Nat → Nat} {r : Int32} {x' : St} (C0 : Cx E A RMO bb_MO_feast 4 (some .int) p s m args meth c) (hap : Ap ad ixM A)  {x : St} {v0 : Nat} {v1 : Int32} {v2 : Int32} {v3 : Int32} (ho_v0 : isO ixM v0 6) (hf : ff_MO_feast x v0 v1 v2 v3 = some (r, x')) {H : Heap} {locs : List Loc} {ls : Array Slot} (hP : Wd E ad ixM x H) (hS : va_S A s.heap H locs) (hl : lv_has ls 4 [(0, .ref (ad v0)), (1, .int v1), (2, .int v2), (3, .int v3)]) : W p l e rm_MO_feast s m args below meth c H locs 0 0 (MQ below (QX E ad ixM A (some (.int r)) x') args s 0 0 A) (F0 m 0 ls []) := by
  obtain ⟨hx, hb, hml, hr, hown, hts, hlk, hK⟩ := id C0
  have hf : bnd (ff_MO_in x v1 0 1) (fun r_1 x_2 => (if r_1 = 0 then bnd (ff_MO_bad x_2 v0) (fun r_5 x_6 => some (r_5, x_6)) else bnd (ff_MO_in x_2 v2 1 99) (fun r_8 x_9 => (if r_8 = 0 then bnd (ff_MO_bad x_9 v0) (fun r_12 x_13 => some (r_12, x_13)) else bnd (ff_MO_isMourner x_9 v0 v3) (fun r_15 x_16 => (if r_15 = 0 then bnd (ff_MO_bad x_16 v0) (fun r_32 x_33 => some (r_32, x_33)) else bnd (ff_MO_get x_16 v0 3) (fun r_19 x_20 => (if r_19 = 10 then bnd (ff_MO_full x_20 v0) (fun r_29 x_30 => some (r_29, x_30)) else bnd (ff_MO_addFeast x_20 v0 v1 v2 v3) (fun _ x_24 => bnd (ff_MO_get x_24 v0 3) (fun r_26 x_27 => some (r_26 - 1, x_27))))))))))) = some (r, x') := hf
  refine lv_iload_n hx hb dd_MO_feast_0 rfl (lv_at hl 1 rfl) ?_
  refine lv_iconst (v := 0) hx hb dd_MO_feast_1 (by decide) ?_
  refine lv_iconst (v := 1) hx hb dd_MO_feast_2 (by decide) ?_
  obtain ⟨r_1, x_2, c_3, hf⟩ := of_bnd hf
  refine cl_MO_64 C0 hap  c_3 hP hS ⟨Nat.le_of_ble_eq_true rfl, Nat.le_of_ble_eq_true rfl⟩ hl.1 (Nat.le_of_ble_eq_true rfl) dd_MO_feast_3 ⟨Nat.le_refl _, Nat.le_refl _⟩ (fun H locs hP hS => ?_)
  refine lv_if_eq (tgt := 27) hx hb dd_MO_feast_6 (by decide) (fun h_4 => ?_) (fun h_4 => ?_)
  · have hf := (if_pos h_4).symm.trans hf
    refine lv_aload_n hx hb dd_MO_feast_27 rfl (lv_at hl 0 rfl) ?_
    obtain ⟨r_5, x_6, c_7, hf⟩ := of_bnd hf
    refine cl_MO_72 C0 hap ho_v0 c_7 hP hS ⟨Nat.le_of_ble_eq_true rfl, Nat.le_of_ble_eq_true rfl⟩ hl.1 (Nat.le_of_ble_eq_true rfl) dd_MO_feast_28 ⟨Nat.le_refl _, Nat.le_refl _⟩ (fun H locs hP hS => ?_)
    exact rrI C0 hP hS dd_MO_feast_31 hf
  · have hf := (if_neg h_4).symm.trans hf
    refine lv_iload_n hx hb dd_MO_feast_9 rfl (lv_at hl 2 rfl) ?_
    refine lv_iconst (v := 1) hx hb dd_MO_feast_10 (by decide) ?_
    refine lv_bipush (v := 99) hx hb dd_MO_feast_11 (by decide) ?_
    obtain ⟨r_8, x_9, c_10, hf⟩ := of_bnd hf
    refine cl_MO_64 C0 hap  c_10 hP hS ⟨Nat.le_of_ble_eq_true rfl, Nat.le_of_ble_eq_true rfl⟩ hl.1 (Nat.le_of_ble_eq_true rfl) dd_MO_feast_13 ⟨Nat.le_refl _, Nat.le_refl _⟩ (fun H locs hP hS => ?_)
    refine lv_if_eq (tgt := 27) hx hb dd_MO_feast_16 (by decide) (fun h_11 => ?_) (fun h_11 => ?_)
    · have hf := (if_pos h_11).symm.trans hf
      refine lv_aload_n hx hb dd_MO_feast_27 rfl (lv_at hl 0 rfl) ?_
      obtain ⟨r_12, x_13, c_14, hf⟩ := of_bnd hf
      refine cl_MO_72 C0 hap ho_v0 c_14 hP hS ⟨Nat.le_of_ble_eq_true rfl, Nat.le_of_ble_eq_true rfl⟩ hl.1 (Nat.le_of_ble_eq_true rfl) dd_MO_feast_28 ⟨Nat.le_refl _, Nat.le_refl _⟩ (fun H locs hP hS => ?_)
      exact rrI C0 hP hS dd_MO_feast_31 hf
    · have hf := (if_neg h_11).symm.trans hf
      refine lv_aload_n hx hb dd_MO_feast_19 rfl (lv_at hl 0 rfl) ?_
      refine lv_iload_n hx hb dd_MO_feast_20 rfl (lv_at hl 3 rfl) ?_
      obtain ⟨r_15, x_16, c_17, hf⟩ := of_bnd hf
      refine cl_MO_94 C0 hap ho_v0 c_17 hP hS ⟨Nat.le_of_ble_eq_true rfl, Nat.le_of_ble_eq_true rfl⟩ hl.1 (Nat.le_of_ble_eq_true rfl) dd_MO_feast_21 ⟨Nat.le_refl _, Nat.le_refl _⟩ (fun H locs hP hS => ?_)
      refine lv_if_ne (tgt := 32) hx hb dd_MO_feast_24 (by decide) (fun h_18 => ?_) (fun h_18 => ?_)
      · have hf := (if_neg h_18).symm.trans hf
        refine lv_aload_n hx hb dd_MO_feast_32 rfl (lv_at hl 0 rfl) ?_
        refine lv_iconst (v := 3) hx hb dd_MO_feast_33 (by decide) ?_
        obtain ⟨r_19, x_20, c_21, hf⟩ := of_bnd hf
        refine cl_MO_60 C0 hap ho_v0 c_21 hP hS ⟨Nat.le_of_ble_eq_true rfl, Nat.le_of_ble_eq_true rfl⟩ hl.1 (Nat.le_of_ble_eq_true rfl) dd_MO_feast_34 ⟨Nat.le_refl _, Nat.le_refl _⟩ (fun H locs hP hS => ?_)
        refine lv_bipush (v := 10) hx hb dd_MO_feast_37 (by decide) ?_
        refine lv_icmp_ne (tgt := 47) hx hb dd_MO_feast_39 (by decide) (fun h_22 => ?_) (fun h_22 => ?_)
        · have hf := (if_neg h_22).symm.trans hf
          refine lv_aload_n hx hb dd_MO_feast_47 rfl (lv_at hl 0 rfl) ?_
          refine lv_iload_n hx hb dd_MO_feast_48 rfl (lv_at hl 1 rfl) ?_
          refine lv_iload_n hx hb dd_MO_feast_49 rfl (lv_at hl 2 rfl) ?_
          refine lv_iload_n hx hb dd_MO_feast_50 rfl (lv_at hl 3 rfl) ?_
          obtain ⟨_, x_24, c_25, hf⟩ := of_bnd hf
          refine cl_MO_97 C0 hap ho_v0 c_25 hP hS ⟨Nat.le_of_ble_eq_true rfl, Nat.le_of_ble_eq_true rfl⟩ hl.1 (Nat.le_of_ble_eq_true rfl) dd_MO_feast_51 ⟨Nat.le_refl _, Nat.le_refl _⟩ (fun H locs hP hS => ?_)
          refine lv_aload_n hx hb dd_MO_feast_54 rfl (lv_at hl 0 rfl) ?_
          refine lv_iconst (v := 3) hx hb dd_MO_feast_55 (by decide) ?_
          obtain ⟨r_26, x_27, c_28, hf⟩ := of_bnd hf
          refine cl_MO_60 C0 hap ho_v0 c_28 hP hS ⟨Nat.le_of_ble_eq_true rfl, Nat.le_of_ble_eq_true rfl⟩ hl.1 (Nat.le_of_ble_eq_true rfl) dd_MO_feast_56 ⟨Nat.le_refl _, Nat.le_refl _⟩ (fun H locs hP hS => ?_)
          refine lv_iconst (v := 1) hx hb dd_MO_feast_59 (by decide) ?_
          refine lv_isub hx hb dd_MO_feast_60 ?_
          exact rrI C0 hP hS dd_MO_feast_61 hf
        · have hf := (if_pos h_22).symm.trans hf
          refine lv_aload_n hx hb dd_MO_feast_42 rfl (lv_at hl 0 rfl) ?_
          obtain ⟨r_29, x_30, c_31, hf⟩ := of_bnd hf
          refine cl_MO_76 C0 hap ho_v0 c_31 hP hS ⟨Nat.le_of_ble_eq_true rfl, Nat.le_of_ble_eq_true rfl⟩ hl.1 (Nat.le_of_ble_eq_true rfl) dd_MO_feast_43 ⟨Nat.le_refl _, Nat.le_refl _⟩ (fun H locs hP hS => ?_)
          exact rrI C0 hP hS dd_MO_feast_46 hf
      · have hf := (if_pos h_18).symm.trans hf
        refine lv_aload_n hx hb dd_MO_feast_27 rfl (lv_at hl 0 rfl) ?_
        obtain ⟨r_32, x_33, c_34, hf⟩ := of_bnd hf
        refine cl_MO_72 C0 hap ho_v0 c_34 hP hS ⟨Nat.le_of_ble_eq_true rfl, Nat.le_of_ble_eq_true rfl⟩ hl.1 (Nat.le_of_ble_eq_true rfl) dd_MO_feast_28 ⟨Nat.le_refl _, Nat.le_refl _⟩ (fun H locs hP hS => ?_)
        exact rrI C0 hP hS dd_MO_feast_31 hf
theorem cc_MO_feast {l : Launch} {E : Ev} {A : Nat → Prop} {ad : Nat → Nat} (hap : Ap ad ixM A) {x x' : St} {v0 : Nat} {v1 : Int32} {v2 : Int32} {v3 : Int32} {r : Int32} (ho_v0 : isO ixM v0 6) (hf : ff_MO_feast x v0 v1 v2 v3 = some (r, x')) : Met l yy_MO_feast (Cond.code yy_MO_feast bb_MO_feast 4 (some .int) :: gtb) rm_MO_feast (va_Pc [.ref (ad v0), .int v1, .int v2, .int v3] (PB E A ad ixM x)) (QX E ad ixM A (some (.int r)) x') 0 0 A := by
  exact enter (by decide) (Nat.le_of_ble_eq_true rfl) (fun p e s m below meth c ls C0 hP hS hl => ww_MO_feast C0 hap ho_v0 hf hP hS hl)
theorem cl_MO_100 {p : Program} {l : Launch} {e : Env} {R : Room} {s : State} {m : MethodId} {args : Array Value} {below : List Frame} {meth : Method} {c : Code} {H : Heap} {locs : List Loc} {cells slots : Nat} {Q : State → Prop} {cc : ByteArray} {pc : Nat} {ls : Array Slot} {rest : List Value} {E : Ev} {A : Nat → Prop} {ad : Nat → Nat} {nL : Nat} {rt : Option FieldType} (C0 : Cx E A RMO cc nL rt p s m args meth c) (hap : Ap ad ixM A) {x x' : St} {v0 : Nat} {r : Int32} (ho_v0 : isO ixM v0 6) (hc : ff_MO_no x v0 = some (r, x')) (hP : Wd E ad ixM x H) (hS : va_S A s.heap H locs) (hR : rm_MO_no.frames + 1 ≤ R.frames ∧ 8 + (1 + 11) + rm_MO_no.locals ≤ R.locals) (hls : ls.size = nL) (hroom : (rest.map fun v => v.category).sum ≤ 8) (hdg : decode cc pc = .ok (.invokevirtual 100, 3)) (hf : cells ≤ R.cells ∧ slots ≤ R.slots) (kk : ∀ H1 locs1, Wd E ad ixM x' H1 → va_S A s.heap H1 locs1 → W p l e R s m args below meth c H1 locs1 cells slots Q (F0 m (pc + 3) ls (.int r :: rest))) : W p l e R s m args below meth c H locs cells slots Q (F0 m pc ls (.ref (ad v0) :: rest)) :=
  rcV (n := 0) C0 (cc_MO_no hap ho_v0 hc) hP hS ho_v0 vcl_6 (by decide) gw_code_MO_no gw_m_MO_100 gw_inst_MO_no gw_sel_MO_no gw_ini_MO rfl rfl (by decide +kernel) rfl hR hls rfl hroom hdg hf (fun H1 locs1 a _ _ b => kk H1 locs1 a b)
abbrev rm_MO_skip : Room := { frames := 1, cells := 0, slots := 0, locals := 22 }
theorem dd_MO_skip_0 : decode bb_MO_skip 0 = .ok (.aload_n 0, 1) := by decide +kernel
theorem dd_MO_skip_1 : decode bb_MO_skip 1 = .ok (.iconst 3, 1) := by decide +kernel
theorem dd_MO_skip_2 : decode bb_MO_skip 2 = .ok (.invokevirtual 60, 3) := by decide +kernel
theorem dd_MO_skip_5 : decode bb_MO_skip 5 = .ok (.ifCond .ne 8, 3) := by decide +kernel
theorem dd_MO_skip_8 : decode bb_MO_skip 8 = .ok (.aload_n 0, 1) := by decide +kernel
theorem dd_MO_skip_9 : decode bb_MO_skip 9 = .ok (.invokevirtual 100, 3) := by decide +kernel
theorem dd_MO_skip_12 : decode bb_MO_skip 12 = .ok (.ireturn, 1) := by decide +kernel
theorem dd_MO_skip_13 : decode bb_MO_skip 13 = .ok (.aload_n 0, 1) := by decide +kernel
theorem dd_MO_skip_14 : decode bb_MO_skip 14 = .ok (.iconst 3, 1) := by decide +kernel
theorem dd_MO_skip_15 : decode bb_MO_skip 15 = .ok (.aload_n 0, 1) := by decide +kernel
theorem dd_MO_skip_16 : decode bb_MO_skip 16 = .ok (.iconst 3, 1) := by decide +kernel
theorem dd_MO_skip_17 : decode bb_MO_skip 17 = .ok (.invokevirtual 60, 3) := by decide +kernel
theorem dd_MO_skip_20 : decode bb_MO_skip 20 = .ok (.iconst 1, 1) := by decide +kernel
theorem dd_MO_skip_21 : decode bb_MO_skip 21 = .ok (.isub, 1) := by decide +kernel
theorem dd_MO_skip_22 : decode bb_MO_skip 22 = .ok (.invokevirtual 68, 3) := by decide +kernel
theorem dd_MO_skip_25 : decode bb_MO_skip 25 = .ok (.aload_n 0, 1) := by decide +kernel
theorem dd_MO_skip_26 : decode bb_MO_skip 26 = .ok (.iconst 3, 1) := by decide +kernel
theorem dd_MO_skip_27 : decode bb_MO_skip 27 = .ok (.invokevirtual 60, 3) := by decide +kernel
theorem dd_MO_skip_30 : decode bb_MO_skip 30 = .ok (.ireturn, 1) := by decide +kernel
def ff_MO_skip  (x : St) (v0 : Nat) : Option (Int32 × St) := bnd (ff_MO_get x v0 3) (fun r_1 x_2 => (if r_1 = 0 then bnd (ff_MO_no x_2 v0) (fun r_14 x_15 => some (r_14, x_15)) else bnd (ff_MO_get x_2 v0 3) (fun r_5 x_6 => bnd (ff_MO_set x_6 v0 3 (r_5 - 1)) (fun _ x_9 => bnd (ff_MO_get x_9 v0 3) (fun r_11 x_12 => some (r_11, x_12))))))
set_option maxHeartbeats 4000000 in
set_option maxRecDepth 100000 in
theorem ww_MO_skip {p : Program} {l : Launch} {e : Env} {s : State} {m : MethodId} {args : Array Value} {below : List Frame} {meth : Method} {c : Code} {E : Ev} {A : Nat → Prop} {ad : Nat → Nat} {r : Int32} {x' : St} (C0 : Cx E A RMO bb_MO_skip 1 (some .int) p s m args meth c) (hap : Ap ad ixM A)  {x : St} {v0 : Nat} (ho_v0 : isO ixM v0 6) (hf : ff_MO_skip x v0 = some (r, x')) {H : Heap} {locs : List Loc} {ls : Array Slot} (hP : Wd E ad ixM x H) (hS : va_S A s.heap H locs) (hl : lv_has ls 1 [(0, .ref (ad v0))]) : W p l e rm_MO_skip s m args below meth c H locs 0 0 (MQ below (QX E ad ixM A (some (.int r)) x') args s 0 0 A) (F0 m 0 ls []) := by
  obtain ⟨hx, hb, hml, hr, hown, hts, hlk, hK⟩ := id C0
  have hf : bnd (ff_MO_get x v0 3) (fun r_1 x_2 => (if r_1 = 0 then bnd (ff_MO_no x_2 v0) (fun r_14 x_15 => some (r_14, x_15)) else bnd (ff_MO_get x_2 v0 3) (fun r_5 x_6 => bnd (ff_MO_set x_6 v0 3 (r_5 - 1)) (fun _ x_9 => bnd (ff_MO_get x_9 v0 3) (fun r_11 x_12 => some (r_11, x_12)))))) = some (r, x') := hf
  refine lv_aload_n hx hb dd_MO_skip_0 rfl (lv_at hl 0 rfl) ?_
  refine lv_iconst (v := 3) hx hb dd_MO_skip_1 (by decide) ?_
  obtain ⟨r_1, x_2, c_3, hf⟩ := of_bnd hf
  refine cl_MO_60 C0 hap ho_v0 c_3 hP hS ⟨Nat.le_of_ble_eq_true rfl, Nat.le_of_ble_eq_true rfl⟩ hl.1 (Nat.le_of_ble_eq_true rfl) dd_MO_skip_2 ⟨Nat.le_refl _, Nat.le_refl _⟩ (fun H locs hP hS => ?_)
  refine lv_if_ne (tgt := 13) hx hb dd_MO_skip_5 (by decide) (fun h_4 => ?_) (fun h_4 => ?_)
  · have hf := (if_neg h_4).symm.trans hf
    refine lv_aload_n hx hb dd_MO_skip_13 rfl (lv_at hl 0 rfl) ?_
    refine lv_iconst (v := 3) hx hb dd_MO_skip_14 (by decide) ?_
    refine lv_aload_n hx hb dd_MO_skip_15 rfl (lv_at hl 0 rfl) ?_
    refine lv_iconst (v := 3) hx hb dd_MO_skip_16 (by decide) ?_
    obtain ⟨r_5, x_6, c_7, hf⟩ := of_bnd hf
    refine cl_MO_60 C0 hap ho_v0 c_7 hP hS ⟨Nat.le_of_ble_eq_true rfl, Nat.le_of_ble_eq_true rfl⟩ hl.1 (Nat.le_of_ble_eq_true rfl) dd_MO_skip_17 ⟨Nat.le_refl _, Nat.le_refl _⟩ (fun H locs hP hS => ?_)
    refine lv_iconst (v := 1) hx hb dd_MO_skip_20 (by decide) ?_
    refine lv_isub hx hb dd_MO_skip_21 ?_
    obtain ⟨_, x_9, c_10, hf⟩ := of_bnd hf
    refine cl_MO_68 C0 hap ho_v0 c_10 hP hS ⟨Nat.le_of_ble_eq_true rfl, Nat.le_of_ble_eq_true rfl⟩ hl.1 (Nat.le_of_ble_eq_true rfl) dd_MO_skip_22 ⟨Nat.le_refl _, Nat.le_refl _⟩ (fun H locs hP hS => ?_)
    refine lv_aload_n hx hb dd_MO_skip_25 rfl (lv_at hl 0 rfl) ?_
    refine lv_iconst (v := 3) hx hb dd_MO_skip_26 (by decide) ?_
    obtain ⟨r_11, x_12, c_13, hf⟩ := of_bnd hf
    refine cl_MO_60 C0 hap ho_v0 c_13 hP hS ⟨Nat.le_of_ble_eq_true rfl, Nat.le_of_ble_eq_true rfl⟩ hl.1 (Nat.le_of_ble_eq_true rfl) dd_MO_skip_27 ⟨Nat.le_refl _, Nat.le_refl _⟩ (fun H locs hP hS => ?_)
    exact rrI C0 hP hS dd_MO_skip_30 hf
  · have hf := (if_pos h_4).symm.trans hf
    refine lv_aload_n hx hb dd_MO_skip_8 rfl (lv_at hl 0 rfl) ?_
    obtain ⟨r_14, x_15, c_16, hf⟩ := of_bnd hf
    refine cl_MO_100 C0 hap ho_v0 c_16 hP hS ⟨Nat.le_of_ble_eq_true rfl, Nat.le_of_ble_eq_true rfl⟩ hl.1 (Nat.le_of_ble_eq_true rfl) dd_MO_skip_9 ⟨Nat.le_refl _, Nat.le_refl _⟩ (fun H locs hP hS => ?_)
    exact rrI C0 hP hS dd_MO_skip_12 hf
theorem cc_MO_skip {l : Launch} {E : Ev} {A : Nat → Prop} {ad : Nat → Nat} (hap : Ap ad ixM A) {x x' : St} {v0 : Nat} {r : Int32} (ho_v0 : isO ixM v0 6) (hf : ff_MO_skip x v0 = some (r, x')) : Met l yy_MO_skip (Cond.code yy_MO_skip bb_MO_skip 1 (some .int) :: gtb) rm_MO_skip (va_Pc [.ref (ad v0)] (PB E A ad ixM x)) (QX E ad ixM A (some (.int r)) x') 0 0 A := by
  exact enter (by decide) (Nat.le_of_ble_eq_true rfl) (fun p e s m below meth c ls C0 hP hS hl => ww_MO_skip C0 hap ho_v0 hf hP hS hl)
abbrev rm_MO_know : Room := { frames := 1, cells := 0, slots := 0, locals := 22 }
theorem dd_MO_know_0 : decode bb_MO_know 0 = .ok (.aload_n 0, 1) := by decide +kernel
theorem dd_MO_know_1 : decode bb_MO_know 1 = .ok (.bipush 6, 2) := by decide +kernel
theorem dd_MO_know_3 : decode bb_MO_know 3 = .ok (.invokevirtual 60, 3) := by decide +kernel
theorem dd_MO_know_6 : decode bb_MO_know 6 = .ok (.bipush 10, 2) := by decide +kernel
theorem dd_MO_know_8 : decode bb_MO_know 8 = .ok (.if_icmp .ne 42, 3) := by decide +kernel
theorem dd_MO_know_11 : decode bb_MO_know 11 = .ok (.iconst 0, 1) := by decide +kernel
theorem dd_MO_know_12 : decode bb_MO_know 12 = .ok (.istore_n 1, 1) := by decide +kernel
theorem dd_MO_know_13 : decode bb_MO_know 13 = .ok (.iload_n 1, 1) := by decide +kernel
theorem dd_MO_know_14 : decode bb_MO_know 14 = .ok (.sipush 189, 3) := by decide +kernel
theorem dd_MO_know_17 : decode bb_MO_know 17 = .ok (.if_icmp .ge 25, 3) := by decide +kernel
theorem dd_MO_know_20 : decode bb_MO_know 20 = .ok (.aload_n 0, 1) := by decide +kernel
theorem dd_MO_know_21 : decode bb_MO_know 21 = .ok (.bipush 105, 2) := by decide +kernel
theorem dd_MO_know_23 : decode bb_MO_know 23 = .ok (.iload_n 1, 1) := by decide +kernel
theorem dd_MO_know_24 : decode bb_MO_know 24 = .ok (.iadd, 1) := by decide +kernel
theorem dd_MO_know_25 : decode bb_MO_know 25 = .ok (.aload_n 0, 1) := by decide +kernel
theorem dd_MO_know_26 : decode bb_MO_know 26 = .ok (.bipush 126, 2) := by decide +kernel
theorem dd_MO_know_28 : decode bb_MO_know 28 = .ok (.iload_n 1, 1) := by decide +kernel
theorem dd_MO_know_29 : decode bb_MO_know 29 = .ok (.iadd, 1) := by decide +kernel
theorem dd_MO_know_30 : decode bb_MO_know 30 = .ok (.invokevirtual 60, 3) := by decide +kernel
theorem dd_MO_know_33 : decode bb_MO_know 33 = .ok (.invokevirtual 68, 3) := by decide +kernel
theorem dd_MO_know_36 : decode bb_MO_know 36 = .ok (.iinc 1 1, 3) := by decide +kernel
theorem dd_MO_know_39 : decode bb_MO_know 39 = .ok (.goto (-26), 3) := by decide +kernel
theorem dd_MO_know_42 : decode bb_MO_know 42 = .ok (.aload_n 0, 1) := by decide +kernel
theorem dd_MO_know_43 : decode bb_MO_know 43 = .ok (.bipush 6, 2) := by decide +kernel
theorem dd_MO_know_45 : decode bb_MO_know 45 = .ok (.bipush 9, 2) := by decide +kernel
theorem dd_MO_know_47 : decode bb_MO_know 47 = .ok (.invokevirtual 68, 3) := by decide +kernel
theorem dd_MO_know_50 : decode bb_MO_know 50 = .ok (.bipush 105, 2) := by decide +kernel
theorem dd_MO_know_52 : decode bb_MO_know 52 = .ok (.bipush 21, 2) := by decide +kernel
theorem dd_MO_know_54 : decode bb_MO_know 54 = .ok (.aload_n 0, 1) := by decide +kernel
theorem dd_MO_know_55 : decode bb_MO_know 55 = .ok (.bipush 6, 2) := by decide +kernel
theorem dd_MO_know_57 : decode bb_MO_know 57 = .ok (.invokevirtual 60, 3) := by decide +kernel
theorem dd_MO_know_60 : decode bb_MO_know 60 = .ok (.imul, 1) := by decide +kernel
theorem dd_MO_know_61 : decode bb_MO_know 61 = .ok (.iadd, 1) := by decide +kernel
theorem dd_MO_know_62 : decode bb_MO_know 62 = .ok (.istore_n 1, 1) := by decide +kernel
theorem dd_MO_know_63 : decode bb_MO_know 63 = .ok (.aload_n 0, 1) := by decide +kernel
theorem dd_MO_know_64 : decode bb_MO_know 64 = .ok (.iload_n 1, 1) := by decide +kernel
theorem dd_MO_know_65 : decode bb_MO_know 65 = .ok (.aload_n 0, 1) := by decide +kernel
theorem dd_MO_know_66 : decode bb_MO_know 66 = .ok (.iconst 5, 1) := by decide +kernel
theorem dd_MO_know_67 : decode bb_MO_know 67 = .ok (.invokevirtual 60, 3) := by decide +kernel
theorem dd_MO_know_70 : decode bb_MO_know 70 = .ok (.invokevirtual 68, 3) := by decide +kernel
theorem dd_MO_know_73 : decode bb_MO_know 73 = .ok (.aload_n 0, 1) := by decide +kernel
theorem dd_MO_know_74 : decode bb_MO_know 74 = .ok (.iload_n 1, 1) := by decide +kernel
theorem dd_MO_know_75 : decode bb_MO_know 75 = .ok (.iconst 1, 1) := by decide +kernel
theorem dd_MO_know_76 : decode bb_MO_know 76 = .ok (.iadd, 1) := by decide +kernel
theorem dd_MO_know_77 : decode bb_MO_know 77 = .ok (.aload_n 0, 1) := by decide +kernel
theorem dd_MO_know_78 : decode bb_MO_know 78 = .ok (.iconst 1, 1) := by decide +kernel
theorem dd_MO_know_79 : decode bb_MO_know 79 = .ok (.invokevirtual 60, 3) := by decide +kernel
theorem dd_MO_know_82 : decode bb_MO_know 82 = .ok (.invokevirtual 68, 3) := by decide +kernel
theorem dd_MO_know_85 : decode bb_MO_know 85 = .ok (.iconst 0, 1) := by decide +kernel
theorem dd_MO_know_86 : decode bb_MO_know 86 = .ok (.istore_n 2, 1) := by decide +kernel
theorem dd_MO_know_87 : decode bb_MO_know 87 = .ok (.iload_n 2, 1) := by decide +kernel
theorem dd_MO_know_88 : decode bb_MO_know 88 = .ok (.bipush 6, 2) := by decide +kernel
theorem dd_MO_know_90 : decode bb_MO_know 90 = .ok (.if_icmp .ge 49, 3) := by decide +kernel
theorem dd_MO_know_93 : decode bb_MO_know 93 = .ok (.iconst 0, 1) := by decide +kernel
theorem dd_MO_know_94 : decode bb_MO_know 94 = .ok (.istore_n 3, 1) := by decide +kernel
theorem dd_MO_know_95 : decode bb_MO_know 95 = .ok (.iload_n 3, 1) := by decide +kernel
theorem dd_MO_know_96 : decode bb_MO_know 96 = .ok (.iconst 3, 1) := by decide +kernel
theorem dd_MO_know_97 : decode bb_MO_know 97 = .ok (.if_icmp .ge 36, 3) := by decide +kernel
theorem dd_MO_know_100 : decode bb_MO_know 100 = .ok (.aload_n 0, 1) := by decide +kernel
theorem dd_MO_know_101 : decode bb_MO_know 101 = .ok (.iload_n 1, 1) := by decide +kernel
theorem dd_MO_know_102 : decode bb_MO_know 102 = .ok (.iconst 2, 1) := by decide +kernel
theorem dd_MO_know_103 : decode bb_MO_know 103 = .ok (.iadd, 1) := by decide +kernel
theorem dd_MO_know_104 : decode bb_MO_know 104 = .ok (.iconst 3, 1) := by decide +kernel
theorem dd_MO_know_105 : decode bb_MO_know 105 = .ok (.iload_n 2, 1) := by decide +kernel
theorem dd_MO_know_106 : decode bb_MO_know 106 = .ok (.imul, 1) := by decide +kernel
theorem dd_MO_know_107 : decode bb_MO_know 107 = .ok (.iadd, 1) := by decide +kernel
theorem dd_MO_know_108 : decode bb_MO_know 108 = .ok (.iload_n 3, 1) := by decide +kernel
theorem dd_MO_know_109 : decode bb_MO_know 109 = .ok (.iadd, 1) := by decide +kernel
theorem dd_MO_know_110 : decode bb_MO_know 110 = .ok (.aload_n 0, 1) := by decide +kernel
theorem dd_MO_know_111 : decode bb_MO_know 111 = .ok (.bipush 25, 2) := by decide +kernel
theorem dd_MO_know_113 : decode bb_MO_know 113 = .ok (.iconst 4, 1) := by decide +kernel
theorem dd_MO_know_114 : decode bb_MO_know 114 = .ok (.iload_n 2, 1) := by decide +kernel
theorem dd_MO_know_115 : decode bb_MO_know 115 = .ok (.imul, 1) := by decide +kernel
theorem dd_MO_know_116 : decode bb_MO_know 116 = .ok (.iadd, 1) := by decide +kernel
theorem dd_MO_know_117 : decode bb_MO_know 117 = .ok (.iconst 1, 1) := by decide +kernel
theorem dd_MO_know_118 : decode bb_MO_know 118 = .ok (.iadd, 1) := by decide +kernel
theorem dd_MO_know_119 : decode bb_MO_know 119 = .ok (.iload_n 3, 1) := by decide +kernel
theorem dd_MO_know_120 : decode bb_MO_know 120 = .ok (.iadd, 1) := by decide +kernel
theorem dd_MO_know_121 : decode bb_MO_know 121 = .ok (.invokevirtual 60, 3) := by decide +kernel
theorem dd_MO_know_124 : decode bb_MO_know 124 = .ok (.invokevirtual 68, 3) := by decide +kernel
theorem dd_MO_know_127 : decode bb_MO_know 127 = .ok (.iinc 3 1, 3) := by decide +kernel
theorem dd_MO_know_130 : decode bb_MO_know 130 = .ok (.goto (-35), 3) := by decide +kernel
theorem dd_MO_know_133 : decode bb_MO_know 133 = .ok (.iinc 2 1, 3) := by decide +kernel
theorem dd_MO_know_136 : decode bb_MO_know 136 = .ok (.goto (-49), 3) := by decide +kernel
theorem dd_MO_know_139 : decode bb_MO_know 139 = .ok (.aload_n 0, 1) := by decide +kernel
theorem dd_MO_know_140 : decode bb_MO_know 140 = .ok (.bipush 6, 2) := by decide +kernel
theorem dd_MO_know_142 : decode bb_MO_know 142 = .ok (.aload_n 0, 1) := by decide +kernel
theorem dd_MO_know_143 : decode bb_MO_know 143 = .ok (.bipush 6, 2) := by decide +kernel
theorem dd_MO_know_145 : decode bb_MO_know 145 = .ok (.invokevirtual 60, 3) := by decide +kernel
theorem dd_MO_know_148 : decode bb_MO_know 148 = .ok (.iconst 1, 1) := by decide +kernel
theorem dd_MO_know_149 : decode bb_MO_know 149 = .ok (.iadd, 1) := by decide +kernel
theorem dd_MO_know_150 : decode bb_MO_know 150 = .ok (.invokevirtual 68, 3) := by decide +kernel
theorem dd_MO_know_153 : decode bb_MO_know 153 = .ok (.return_, 1) := by decide +kernel
def ff_MO_know_139  (x : St) (v0 : Nat) : Option (Unit × St) := bnd (ff_MO_get x v0 6) (fun r_21 x_22 => bnd (ff_MO_set x_22 v0 6 (r_21 + 1)) (fun _ x_25 => some ((), x_25)))
def ff_MO_know_95 (k_87 : St → Nat → Int32 → Int32 → Option (Unit × St)) : Nat → St → Nat → Int32 → Int32 → Int32 → Option (Unit × St)
  | 0, _, _, _, _, _ => none
  | n + 1, x, v0, v1, v2, v3 => (if 3 ≤ v3 then k_87 x v0 v1 (v2 + 1) else bnd (ff_MO_get x v0 (((25 + (4 * v2)) + 1) + v3)) (fun r_28 x_29 => bnd (ff_MO_set x_29 v0 (((v1 + 2) + (3 * v2)) + v3) r_28) (fun _ x_32 => ff_MO_know_95 k_87 n x_32 v0 v1 v2 (v3 + 1))))
def ff_MO_know_87  : Nat → St → Nat → Int32 → Int32 → Option (Unit × St)
  | 0, _, _, _, _ => none
  | n + 1, x, v0, v1, v2 => (if 6 ≤ v2 then ff_MO_know_139 x v0 else ff_MO_know_95 (ff_MO_know_87 n) FU x v0 v1 v2 0)
def ff_MO_know_50  (x : St) (v0 : Nat) : Option (Unit × St) := bnd (ff_MO_get x v0 6) (fun r_5 x_6 => bnd (ff_MO_get x_6 v0 5) (fun r_8 x_9 => bnd (ff_MO_set x_9 v0 (105 + (21 * r_5)) r_8) (fun _ x_12 => bnd (ff_MO_get x_12 v0 1) (fun r_14 x_15 => bnd (ff_MO_set x_15 v0 ((105 + (21 * r_5)) + 1) r_14) (fun _ x_18 => ff_MO_know_87 FU x_18 v0 (105 + (21 * r_5)) 0)))))
def ff_MO_know_42  (x : St) (v0 : Nat) : Option (Unit × St) := bnd (ff_MO_set x v0 6 9) (fun _ x_36 => ff_MO_know_50 x_36 v0)
def ff_MO_know_13  : Nat → St → Nat → Int32 → Option (Unit × St)
  | 0, _, _, _ => none
  | n + 1, x, v0, v1 => (if 189 ≤ v1 then ff_MO_know_42 x v0 else bnd (ff_MO_get x v0 (126 + v1)) (fun r_38 x_39 => bnd (ff_MO_set x_39 v0 (105 + v1) r_38) (fun _ x_42 => ff_MO_know_13 n x_42 v0 (v1 + 1))))
def ff_MO_know  (x : St) (v0 : Nat) : Option (Unit × St) := bnd (ff_MO_get x v0 6) (fun r_1 x_2 => (if r_1 = 10 then ff_MO_know_13 FU x_2 v0 0 else ff_MO_know_50 x_2 v0))
set_option maxHeartbeats 4000000 in
set_option maxRecDepth 100000 in
theorem ww_MO_know_139 {p : Program} {l : Launch} {e : Env} {s : State} {m : MethodId} {args : Array Value} {below : List Frame} {meth : Method} {c : Code} {E : Ev} {A : Nat → Prop} {ad : Nat → Nat} {r : Unit} {x' : St} (C0 : Cx E A RMO bb_MO_know 4 (none) p s m args meth c) (hap : Ap ad ixM A)  {x : St} {v0 : Nat} (ho_v0 : isO ixM v0 6) (hf : ff_MO_know_139 x v0 = some (r, x')) {H : Heap} {locs : List Loc} {ls : Array Slot} (hP : Wd E ad ixM x H) (hS : va_S A s.heap H locs) (hl : lv_has ls 4 [(0, .ref (ad v0))]) : W p l e rm_MO_know s m args below meth c H locs 0 0 (MQ below (QX E ad ixM A (none) x') args s 0 0 A) (F0 m 139 ls []) := by
  obtain ⟨hx, hb, hml, hr, hown, hts, hlk, hK⟩ := id C0
  have hf : bnd (ff_MO_get x v0 6) (fun r_21 x_22 => bnd (ff_MO_set x_22 v0 6 (r_21 + 1)) (fun _ x_25 => some ((), x_25))) = some (r, x') := hf
  refine lv_aload_n hx hb dd_MO_know_139 rfl (lv_at hl 0 rfl) ?_
  refine lv_bipush (v := 6) hx hb dd_MO_know_140 (by decide) ?_
  refine lv_aload_n hx hb dd_MO_know_142 rfl (lv_at hl 0 rfl) ?_
  refine lv_bipush (v := 6) hx hb dd_MO_know_143 (by decide) ?_
  obtain ⟨r_21, x_22, c_23, hf⟩ := of_bnd hf
  refine cl_MO_60 C0 hap ho_v0 c_23 hP hS ⟨Nat.le_of_ble_eq_true rfl, Nat.le_of_ble_eq_true rfl⟩ hl.1 (Nat.le_of_ble_eq_true rfl) dd_MO_know_145 ⟨Nat.le_refl _, Nat.le_refl _⟩ (fun H locs hP hS => ?_)
  refine lv_iconst (v := 1) hx hb dd_MO_know_148 (by decide) ?_
  refine lv_iadd hx hb dd_MO_know_149 ?_
  obtain ⟨_, x_25, c_26, hf⟩ := of_bnd hf
  refine cl_MO_68 C0 hap ho_v0 c_26 hP hS ⟨Nat.le_of_ble_eq_true rfl, Nat.le_of_ble_eq_true rfl⟩ hl.1 (Nat.le_of_ble_eq_true rfl) dd_MO_know_150 ⟨Nat.le_refl _, Nat.le_refl _⟩ (fun H locs hP hS => ?_)
  exact rrV C0 hP hS dd_MO_know_153 hf
set_option maxHeartbeats 4000000 in
set_option maxRecDepth 100000 in
theorem ww_MO_know_95 {p : Program} {l : Launch} {e : Env} {s : State} {m : MethodId} {args : Array Value} {below : List Frame} {meth : Method} {c : Code} {E : Ev} {A : Nat → Prop} {ad : Nat → Nat} {r : Unit} {x' : St} (C0 : Cx E A RMO bb_MO_know 4 (none) p s m args meth c) (hap : Ap ad ixM A) {k_87 : St → Nat → Int32 → Int32 → Option (Unit × St)} (hk_87 : ∀ (x : St) (v0 : Nat) (v1 : Int32) (v2 : Int32), (isO ixM v0 6) → k_87 x v0 v1 v2 = some (r, x') → ∀ (H : Heap) (locs : List Loc) (ls : Array Slot), Wd E ad ixM x H → va_S A s.heap H locs → lv_has ls 4 [(0, .ref (ad v0)), (1, .int v1), (2, .int v2)] → W p l e rm_MO_know s m args below meth c H locs 0 0 (MQ below (QX E ad ixM A (none) x') args s 0 0 A) (F0 m 87 ls [])) : ∀ (n : Nat), ∀ (x : St) (v0 : Nat) (v1 : Int32) (v2 : Int32) (v3 : Int32), (isO ixM v0 6) → ff_MO_know_95 k_87 n x v0 v1 v2 v3 = some (r, x') → ∀ (H : Heap) (locs : List Loc) (ls : Array Slot), Wd E ad ixM x H → va_S A s.heap H locs → lv_has ls 4 [(0, .ref (ad v0)), (1, .int v1), (2, .int v2), (3, .int v3)] → W p l e rm_MO_know s m args below meth c H locs 0 0 (MQ below (QX E ad ixM A (none) x') args s 0 0 A) (F0 m 95 ls []) := by
  obtain ⟨hx, hb, hml, hr, hown, hts, hlk, hK⟩ := id C0
  intro n
  induction n with
  | zero => intro x v0 v1 v2 v3 ho_v0 hf; exact of_no hf
  | succ n ih =>
    intro x v0 v1 v2 v3 ho_v0 hf H locs ls hP hS hl
    have hf : (if 3 ≤ v3 then k_87 x v0 v1 (v2 + 1) else bnd (ff_MO_get x v0 (((25 + (4 * v2)) + 1) + v3)) (fun r_28 x_29 => bnd (ff_MO_set x_29 v0 (((v1 + 2) + (3 * v2)) + v3) r_28) (fun _ x_32 => ff_MO_know_95 k_87 n x_32 v0 v1 v2 (v3 + 1)))) = some (r, x') := hf
    refine lv_iload_n hx hb dd_MO_know_95 rfl (lv_at hl 3 rfl) ?_
    refine lv_iconst (v := 3) hx hb dd_MO_know_96 (by decide) ?_
    refine lv_icmp_ge (tgt := 133) hx hb dd_MO_know_97 (by decide) (fun h_27 => ?_) (fun h_27 => ?_)
    · have hf := (if_pos h_27).symm.trans hf
      refine lv_iinc (v := v2 + 1) (lv' := [(2, .int (v2 + 1)), (0, .ref (ad v0)), (1, .int v1), (3, .int v3)]) hx hb dd_MO_know_133 hl (k := 2) rfl rfl (by decide) rfl (fun ls hl => ?_)
      refine lv_goto (tgt := 87) hx hb dd_MO_know_136 (by decide) ?_
      exact hk_87 x v0 v1 (v2 + 1) ho_v0 hf _ _ _ hP hS (lv_sub hl [1, 2, 0] rfl)
    · have hf := (if_neg h_27).symm.trans hf
      refine lv_aload_n hx hb dd_MO_know_100 rfl (lv_at hl 0 rfl) ?_
      refine lv_iload_n hx hb dd_MO_know_101 rfl (lv_at hl 1 rfl) ?_
      refine lv_iconst (v := 2) hx hb dd_MO_know_102 (by decide) ?_
      refine lv_iadd hx hb dd_MO_know_103 ?_
      refine lv_iconst (v := 3) hx hb dd_MO_know_104 (by decide) ?_
      refine lv_iload_n hx hb dd_MO_know_105 rfl (lv_at hl 2 rfl) ?_
      refine lv_imul hx hb dd_MO_know_106 ?_
      refine lv_iadd hx hb dd_MO_know_107 ?_
      refine lv_iload_n hx hb dd_MO_know_108 rfl (lv_at hl 3 rfl) ?_
      refine lv_iadd hx hb dd_MO_know_109 ?_
      refine lv_aload_n hx hb dd_MO_know_110 rfl (lv_at hl 0 rfl) ?_
      refine lv_bipush (v := 25) hx hb dd_MO_know_111 (by decide) ?_
      refine lv_iconst (v := 4) hx hb dd_MO_know_113 (by decide) ?_
      refine lv_iload_n hx hb dd_MO_know_114 rfl (lv_at hl 2 rfl) ?_
      refine lv_imul hx hb dd_MO_know_115 ?_
      refine lv_iadd hx hb dd_MO_know_116 ?_
      refine lv_iconst (v := 1) hx hb dd_MO_know_117 (by decide) ?_
      refine lv_iadd hx hb dd_MO_know_118 ?_
      refine lv_iload_n hx hb dd_MO_know_119 rfl (lv_at hl 3 rfl) ?_
      refine lv_iadd hx hb dd_MO_know_120 ?_
      obtain ⟨r_28, x_29, c_30, hf⟩ := of_bnd hf
      refine cl_MO_60 C0 hap ho_v0 c_30 hP hS ⟨Nat.le_of_ble_eq_true rfl, Nat.le_of_ble_eq_true rfl⟩ hl.1 (Nat.le_of_ble_eq_true rfl) dd_MO_know_121 ⟨Nat.le_refl _, Nat.le_refl _⟩ (fun H locs hP hS => ?_)
      obtain ⟨_, x_32, c_33, hf⟩ := of_bnd hf
      refine cl_MO_68 C0 hap ho_v0 c_33 hP hS ⟨Nat.le_of_ble_eq_true rfl, Nat.le_of_ble_eq_true rfl⟩ hl.1 (Nat.le_of_ble_eq_true rfl) dd_MO_know_124 ⟨Nat.le_refl _, Nat.le_refl _⟩ (fun H locs hP hS => ?_)
      refine lv_iinc (v := v3 + 1) (lv' := [(3, .int (v3 + 1)), (0, .ref (ad v0)), (1, .int v1), (2, .int v2)]) hx hb dd_MO_know_127 hl (k := 3) rfl rfl (by decide) rfl (fun ls hl => ?_)
      refine lv_goto (tgt := 95) hx hb dd_MO_know_130 (by decide) ?_
      exact ih x_32 v0 v1 v2 (v3 + 1) ho_v0 hf _ _ _ hP hS (lv_sub hl [1, 2, 3, 0] rfl)
set_option maxHeartbeats 4000000 in
set_option maxRecDepth 100000 in
theorem ww_MO_know_87 {p : Program} {l : Launch} {e : Env} {s : State} {m : MethodId} {args : Array Value} {below : List Frame} {meth : Method} {c : Code} {E : Ev} {A : Nat → Prop} {ad : Nat → Nat} {r : Unit} {x' : St} (C0 : Cx E A RMO bb_MO_know 4 (none) p s m args meth c) (hap : Ap ad ixM A)  : ∀ (n : Nat), ∀ (x : St) (v0 : Nat) (v1 : Int32) (v2 : Int32), (isO ixM v0 6) → ff_MO_know_87 n x v0 v1 v2 = some (r, x') → ∀ (H : Heap) (locs : List Loc) (ls : Array Slot), Wd E ad ixM x H → va_S A s.heap H locs → lv_has ls 4 [(0, .ref (ad v0)), (1, .int v1), (2, .int v2)] → W p l e rm_MO_know s m args below meth c H locs 0 0 (MQ below (QX E ad ixM A (none) x') args s 0 0 A) (F0 m 87 ls []) := by
  obtain ⟨hx, hb, hml, hr, hown, hts, hlk, hK⟩ := id C0
  intro n
  induction n with
  | zero => intro x v0 v1 v2 ho_v0 hf; exact of_no hf
  | succ n ih =>
    intro x v0 v1 v2 ho_v0 hf H locs ls hP hS hl
    have hf : (if 6 ≤ v2 then ff_MO_know_139 x v0 else ff_MO_know_95 (ff_MO_know_87 n) FU x v0 v1 v2 0) = some (r, x') := hf
    refine lv_iload_n hx hb dd_MO_know_87 rfl (lv_at hl 2 rfl) ?_
    refine lv_bipush (v := 6) hx hb dd_MO_know_88 (by decide) ?_
    refine lv_icmp_ge (tgt := 139) hx hb dd_MO_know_90 (by decide) (fun h_20 => ?_) (fun h_20 => ?_)
    · have hf := (if_pos h_20).symm.trans hf
      exact ww_MO_know_139 C0 hap  ho_v0 hf hP hS (lv_sub hl [0] rfl)
    · have hf := (if_neg h_20).symm.trans hf
      refine lv_iconst (v := 0) hx hb dd_MO_know_93 (by decide) ?_
      refine lv_istore_n (lv' := [(3, .int 0), (0, .ref (ad v0)), (1, .int v1), (2, .int v2)]) hx hb dd_MO_know_94 rfl hl (by decide) rfl (fun ls hl => ?_)
      exact ww_MO_know_95 C0 hap ih FU x v0 v1 v2 0 ho_v0 hf _ _ _ hP hS (lv_sub hl [1, 2, 3, 0] rfl)
set_option maxHeartbeats 4000000 in
set_option maxRecDepth 100000 in
theorem ww_MO_know_50 {p : Program} {l : Launch} {e : Env} {s : State} {m : MethodId} {args : Array Value} {below : List Frame} {meth : Method} {c : Code} {E : Ev} {A : Nat → Prop} {ad : Nat → Nat} {r : Unit} {x' : St} (C0 : Cx E A RMO bb_MO_know 4 (none) p s m args meth c) (hap : Ap ad ixM A)  {x : St} {v0 : Nat} (ho_v0 : isO ixM v0 6) (hf : ff_MO_know_50 x v0 = some (r, x')) {H : Heap} {locs : List Loc} {ls : Array Slot} (hP : Wd E ad ixM x H) (hS : va_S A s.heap H locs) (hl : lv_has ls 4 [(0, .ref (ad v0))]) : W p l e rm_MO_know s m args below meth c H locs 0 0 (MQ below (QX E ad ixM A (none) x') args s 0 0 A) (F0 m 50 ls []) := by
  obtain ⟨hx, hb, hml, hr, hown, hts, hlk, hK⟩ := id C0
  have hf : bnd (ff_MO_get x v0 6) (fun r_5 x_6 => bnd (ff_MO_get x_6 v0 5) (fun r_8 x_9 => bnd (ff_MO_set x_9 v0 (105 + (21 * r_5)) r_8) (fun _ x_12 => bnd (ff_MO_get x_12 v0 1) (fun r_14 x_15 => bnd (ff_MO_set x_15 v0 ((105 + (21 * r_5)) + 1) r_14) (fun _ x_18 => ff_MO_know_87 FU x_18 v0 (105 + (21 * r_5)) 0))))) = some (r, x') := hf
  refine lv_bipush (v := 105) hx hb dd_MO_know_50 (by decide) ?_
  refine lv_bipush (v := 21) hx hb dd_MO_know_52 (by decide) ?_
  refine lv_aload_n hx hb dd_MO_know_54 rfl (lv_at hl 0 rfl) ?_
  refine lv_bipush (v := 6) hx hb dd_MO_know_55 (by decide) ?_
  obtain ⟨r_5, x_6, c_7, hf⟩ := of_bnd hf
  refine cl_MO_60 C0 hap ho_v0 c_7 hP hS ⟨Nat.le_of_ble_eq_true rfl, Nat.le_of_ble_eq_true rfl⟩ hl.1 (Nat.le_of_ble_eq_true rfl) dd_MO_know_57 ⟨Nat.le_refl _, Nat.le_refl _⟩ (fun H locs hP hS => ?_)
  refine lv_imul hx hb dd_MO_know_60 ?_
  refine lv_iadd hx hb dd_MO_know_61 ?_
  refine lv_istore_n (lv' := [(1, .int (105 + (21 * r_5))), (0, .ref (ad v0))]) hx hb dd_MO_know_62 rfl hl (by decide) rfl (fun ls hl => ?_)
  refine lv_aload_n hx hb dd_MO_know_63 rfl (lv_at hl 1 rfl) ?_
  refine lv_iload_n hx hb dd_MO_know_64 rfl (lv_at hl 0 rfl) ?_
  refine lv_aload_n hx hb dd_MO_know_65 rfl (lv_at hl 1 rfl) ?_
  refine lv_iconst (v := 5) hx hb dd_MO_know_66 (by decide) ?_
  obtain ⟨r_8, x_9, c_10, hf⟩ := of_bnd hf
  refine cl_MO_60 C0 hap ho_v0 c_10 hP hS ⟨Nat.le_of_ble_eq_true rfl, Nat.le_of_ble_eq_true rfl⟩ hl.1 (Nat.le_of_ble_eq_true rfl) dd_MO_know_67 ⟨Nat.le_refl _, Nat.le_refl _⟩ (fun H locs hP hS => ?_)
  obtain ⟨_, x_12, c_13, hf⟩ := of_bnd hf
  refine cl_MO_68 C0 hap ho_v0 c_13 hP hS ⟨Nat.le_of_ble_eq_true rfl, Nat.le_of_ble_eq_true rfl⟩ hl.1 (Nat.le_of_ble_eq_true rfl) dd_MO_know_70 ⟨Nat.le_refl _, Nat.le_refl _⟩ (fun H locs hP hS => ?_)
  refine lv_aload_n hx hb dd_MO_know_73 rfl (lv_at hl 1 rfl) ?_
  refine lv_iload_n hx hb dd_MO_know_74 rfl (lv_at hl 0 rfl) ?_
  refine lv_iconst (v := 1) hx hb dd_MO_know_75 (by decide) ?_
  refine lv_iadd hx hb dd_MO_know_76 ?_
  refine lv_aload_n hx hb dd_MO_know_77 rfl (lv_at hl 1 rfl) ?_
  refine lv_iconst (v := 1) hx hb dd_MO_know_78 (by decide) ?_
  obtain ⟨r_14, x_15, c_16, hf⟩ := of_bnd hf
  refine cl_MO_60 C0 hap ho_v0 c_16 hP hS ⟨Nat.le_of_ble_eq_true rfl, Nat.le_of_ble_eq_true rfl⟩ hl.1 (Nat.le_of_ble_eq_true rfl) dd_MO_know_79 ⟨Nat.le_refl _, Nat.le_refl _⟩ (fun H locs hP hS => ?_)
  obtain ⟨_, x_18, c_19, hf⟩ := of_bnd hf
  refine cl_MO_68 C0 hap ho_v0 c_19 hP hS ⟨Nat.le_of_ble_eq_true rfl, Nat.le_of_ble_eq_true rfl⟩ hl.1 (Nat.le_of_ble_eq_true rfl) dd_MO_know_82 ⟨Nat.le_refl _, Nat.le_refl _⟩ (fun H locs hP hS => ?_)
  refine lv_iconst (v := 0) hx hb dd_MO_know_85 (by decide) ?_
  refine lv_istore_n (lv' := [(2, .int 0), (1, .int (105 + (21 * r_5))), (0, .ref (ad v0))]) hx hb dd_MO_know_86 rfl hl (by decide) rfl (fun ls hl => ?_)
  exact ww_MO_know_87 C0 hap  FU x_18 v0 (105 + (21 * r_5)) 0 ho_v0 hf _ _ _ hP hS (lv_sub hl [2, 1, 0] rfl)
set_option maxHeartbeats 4000000 in
set_option maxRecDepth 100000 in
theorem ww_MO_know_42 {p : Program} {l : Launch} {e : Env} {s : State} {m : MethodId} {args : Array Value} {below : List Frame} {meth : Method} {c : Code} {E : Ev} {A : Nat → Prop} {ad : Nat → Nat} {r : Unit} {x' : St} (C0 : Cx E A RMO bb_MO_know 4 (none) p s m args meth c) (hap : Ap ad ixM A)  {x : St} {v0 : Nat} (ho_v0 : isO ixM v0 6) (hf : ff_MO_know_42 x v0 = some (r, x')) {H : Heap} {locs : List Loc} {ls : Array Slot} (hP : Wd E ad ixM x H) (hS : va_S A s.heap H locs) (hl : lv_has ls 4 [(0, .ref (ad v0))]) : W p l e rm_MO_know s m args below meth c H locs 0 0 (MQ below (QX E ad ixM A (none) x') args s 0 0 A) (F0 m 42 ls []) := by
  obtain ⟨hx, hb, hml, hr, hown, hts, hlk, hK⟩ := id C0
  have hf : bnd (ff_MO_set x v0 6 9) (fun _ x_36 => ff_MO_know_50 x_36 v0) = some (r, x') := hf
  refine lv_aload_n hx hb dd_MO_know_42 rfl (lv_at hl 0 rfl) ?_
  refine lv_bipush (v := 6) hx hb dd_MO_know_43 (by decide) ?_
  refine lv_bipush (v := 9) hx hb dd_MO_know_45 (by decide) ?_
  obtain ⟨_, x_36, c_37, hf⟩ := of_bnd hf
  refine cl_MO_68 C0 hap ho_v0 c_37 hP hS ⟨Nat.le_of_ble_eq_true rfl, Nat.le_of_ble_eq_true rfl⟩ hl.1 (Nat.le_of_ble_eq_true rfl) dd_MO_know_47 ⟨Nat.le_refl _, Nat.le_refl _⟩ (fun H locs hP hS => ?_)
  exact ww_MO_know_50 C0 hap  ho_v0 hf hP hS (lv_sub hl [0] rfl)
set_option maxHeartbeats 4000000 in
set_option maxRecDepth 100000 in
theorem ww_MO_know_13 {p : Program} {l : Launch} {e : Env} {s : State} {m : MethodId} {args : Array Value} {below : List Frame} {meth : Method} {c : Code} {E : Ev} {A : Nat → Prop} {ad : Nat → Nat} {r : Unit} {x' : St} (C0 : Cx E A RMO bb_MO_know 4 (none) p s m args meth c) (hap : Ap ad ixM A)  : ∀ (n : Nat), ∀ (x : St) (v0 : Nat) (v1 : Int32), (isO ixM v0 6) → ff_MO_know_13 n x v0 v1 = some (r, x') → ∀ (H : Heap) (locs : List Loc) (ls : Array Slot), Wd E ad ixM x H → va_S A s.heap H locs → lv_has ls 4 [(0, .ref (ad v0)), (1, .int v1)] → W p l e rm_MO_know s m args below meth c H locs 0 0 (MQ below (QX E ad ixM A (none) x') args s 0 0 A) (F0 m 13 ls []) := by
  obtain ⟨hx, hb, hml, hr, hown, hts, hlk, hK⟩ := id C0
  intro n
  induction n with
  | zero => intro x v0 v1 ho_v0 hf; exact of_no hf
  | succ n ih =>
    intro x v0 v1 ho_v0 hf H locs ls hP hS hl
    have hf : (if 189 ≤ v1 then ff_MO_know_42 x v0 else bnd (ff_MO_get x v0 (126 + v1)) (fun r_38 x_39 => bnd (ff_MO_set x_39 v0 (105 + v1) r_38) (fun _ x_42 => ff_MO_know_13 n x_42 v0 (v1 + 1)))) = some (r, x') := hf
    refine lv_iload_n hx hb dd_MO_know_13 rfl (lv_at hl 1 rfl) ?_
    refine lv_sipush (v := 189) hx hb dd_MO_know_14 (by decide) ?_
    refine lv_icmp_ge (tgt := 42) hx hb dd_MO_know_17 (by decide) (fun h_34 => ?_) (fun h_34 => ?_)
    · have hf := (if_pos h_34).symm.trans hf
      exact ww_MO_know_42 C0 hap  ho_v0 hf hP hS (lv_sub hl [0] rfl)
    · have hf := (if_neg h_34).symm.trans hf
      refine lv_aload_n hx hb dd_MO_know_20 rfl (lv_at hl 0 rfl) ?_
      refine lv_bipush (v := 105) hx hb dd_MO_know_21 (by decide) ?_
      refine lv_iload_n hx hb dd_MO_know_23 rfl (lv_at hl 1 rfl) ?_
      refine lv_iadd hx hb dd_MO_know_24 ?_
      refine lv_aload_n hx hb dd_MO_know_25 rfl (lv_at hl 0 rfl) ?_
      refine lv_bipush (v := 126) hx hb dd_MO_know_26 (by decide) ?_
      refine lv_iload_n hx hb dd_MO_know_28 rfl (lv_at hl 1 rfl) ?_
      refine lv_iadd hx hb dd_MO_know_29 ?_
      obtain ⟨r_38, x_39, c_40, hf⟩ := of_bnd hf
      refine cl_MO_60 C0 hap ho_v0 c_40 hP hS ⟨Nat.le_of_ble_eq_true rfl, Nat.le_of_ble_eq_true rfl⟩ hl.1 (Nat.le_of_ble_eq_true rfl) dd_MO_know_30 ⟨Nat.le_refl _, Nat.le_refl _⟩ (fun H locs hP hS => ?_)
      obtain ⟨_, x_42, c_43, hf⟩ := of_bnd hf
      refine cl_MO_68 C0 hap ho_v0 c_43 hP hS ⟨Nat.le_of_ble_eq_true rfl, Nat.le_of_ble_eq_true rfl⟩ hl.1 (Nat.le_of_ble_eq_true rfl) dd_MO_know_33 ⟨Nat.le_refl _, Nat.le_refl _⟩ (fun H locs hP hS => ?_)
      refine lv_iinc (v := v1 + 1) (lv' := [(1, .int (v1 + 1)), (0, .ref (ad v0))]) hx hb dd_MO_know_36 hl (k := 1) rfl rfl (by decide) rfl (fun ls hl => ?_)
      refine lv_goto (tgt := 13) hx hb dd_MO_know_39 (by decide) ?_
      exact ih x_42 v0 (v1 + 1) ho_v0 hf _ _ _ hP hS (lv_sub hl [1, 0] rfl)
set_option maxHeartbeats 4000000 in
set_option maxRecDepth 100000 in
theorem ww_MO_know {p : Program} {l : Launch} {e : Env} {s : State} {m : MethodId} {args : Array Value} {below : List Frame} {meth : Method} {c : Code} {E : Ev} {A : Nat → Prop} {ad : Nat → Nat} {r : Unit} {x' : St} (C0 : Cx E A RMO bb_MO_know 4 (none) p s m args meth c) (hap : Ap ad ixM A)  {x : St} {v0 : Nat} (ho_v0 : isO ixM v0 6) (hf : ff_MO_know x v0 = some (r, x')) {H : Heap} {locs : List Loc} {ls : Array Slot} (hP : Wd E ad ixM x H) (hS : va_S A s.heap H locs) (hl : lv_has ls 4 [(0, .ref (ad v0))]) : W p l e rm_MO_know s m args below meth c H locs 0 0 (MQ below (QX E ad ixM A (none) x') args s 0 0 A) (F0 m 0 ls []) := by
  obtain ⟨hx, hb, hml, hr, hown, hts, hlk, hK⟩ := id C0
  have hf : bnd (ff_MO_get x v0 6) (fun r_1 x_2 => (if r_1 = 10 then ff_MO_know_13 FU x_2 v0 0 else ff_MO_know_50 x_2 v0)) = some (r, x') := hf
  refine lv_aload_n hx hb dd_MO_know_0 rfl (lv_at hl 0 rfl) ?_
  refine lv_bipush (v := 6) hx hb dd_MO_know_1 (by decide) ?_
  obtain ⟨r_1, x_2, c_3, hf⟩ := of_bnd hf
  refine cl_MO_60 C0 hap ho_v0 c_3 hP hS ⟨Nat.le_of_ble_eq_true rfl, Nat.le_of_ble_eq_true rfl⟩ hl.1 (Nat.le_of_ble_eq_true rfl) dd_MO_know_3 ⟨Nat.le_refl _, Nat.le_refl _⟩ (fun H locs hP hS => ?_)
  refine lv_bipush (v := 10) hx hb dd_MO_know_6 (by decide) ?_
  refine lv_icmp_ne (tgt := 50) hx hb dd_MO_know_8 (by decide) (fun h_4 => ?_) (fun h_4 => ?_)
  · have hf := (if_neg h_4).symm.trans hf
    exact ww_MO_know_50 C0 hap  ho_v0 hf hP hS (lv_sub hl [0] rfl)
  · have hf := (if_pos h_4).symm.trans hf
    refine lv_iconst (v := 0) hx hb dd_MO_know_11 (by decide) ?_
    refine lv_istore_n (lv' := [(1, .int 0), (0, .ref (ad v0))]) hx hb dd_MO_know_12 rfl hl (by decide) rfl (fun ls hl => ?_)
    exact ww_MO_know_13 C0 hap  FU x_2 v0 0 ho_v0 hf _ _ _ hP hS (lv_sub hl [1, 0] rfl)
theorem cc_MO_know {l : Launch} {E : Ev} {A : Nat → Prop} {ad : Nat → Nat} (hap : Ap ad ixM A) {x x' : St} {v0 : Nat} {r : Unit} (ho_v0 : isO ixM v0 6) (hf : ff_MO_know x v0 = some (r, x')) : Met l yy_MO_know (Cond.code yy_MO_know bb_MO_know 4 (none) :: gtb) rm_MO_know (va_Pc [.ref (ad v0)] (PB E A ad ixM x)) (QX E ad ixM A (none) x') 0 0 A := by
  exact enter (by decide) (Nat.le_of_ble_eq_true rfl) (fun p e s m below meth c ls C0 hP hS hl => ww_MO_know C0 hap ho_v0 hf hP hS hl)
abbrev rm_MO_undo : Room := { frames := 1, cells := 0, slots := 0, locals := 22 }
theorem dd_MO_undo_0 : decode bb_MO_undo 0 = .ok (.aload_n 0, 1) := by decide +kernel
theorem dd_MO_undo_1 : decode bb_MO_undo 1 = .ok (.bipush 6, 2) := by decide +kernel
theorem dd_MO_undo_3 : decode bb_MO_undo 3 = .ok (.invokevirtual 60, 3) := by decide +kernel
theorem dd_MO_undo_6 : decode bb_MO_undo 6 = .ok (.ifCond .ne 8, 3) := by decide +kernel
theorem dd_MO_undo_9 : decode bb_MO_undo 9 = .ok (.aload_n 0, 1) := by decide +kernel
theorem dd_MO_undo_10 : decode bb_MO_undo 10 = .ok (.invokevirtual 100, 3) := by decide +kernel
theorem dd_MO_undo_13 : decode bb_MO_undo 13 = .ok (.ireturn, 1) := by decide +kernel
theorem dd_MO_undo_14 : decode bb_MO_undo 14 = .ok (.aload_n 0, 1) := by decide +kernel
theorem dd_MO_undo_15 : decode bb_MO_undo 15 = .ok (.bipush 6, 2) := by decide +kernel
theorem dd_MO_undo_17 : decode bb_MO_undo 17 = .ok (.aload_n 0, 1) := by decide +kernel
theorem dd_MO_undo_18 : decode bb_MO_undo 18 = .ok (.bipush 6, 2) := by decide +kernel
theorem dd_MO_undo_20 : decode bb_MO_undo 20 = .ok (.invokevirtual 60, 3) := by decide +kernel
theorem dd_MO_undo_23 : decode bb_MO_undo 23 = .ok (.iconst 1, 1) := by decide +kernel
theorem dd_MO_undo_24 : decode bb_MO_undo 24 = .ok (.isub, 1) := by decide +kernel
theorem dd_MO_undo_25 : decode bb_MO_undo 25 = .ok (.invokevirtual 68, 3) := by decide +kernel
theorem dd_MO_undo_28 : decode bb_MO_undo 28 = .ok (.bipush 105, 2) := by decide +kernel
theorem dd_MO_undo_30 : decode bb_MO_undo 30 = .ok (.bipush 21, 2) := by decide +kernel
theorem dd_MO_undo_32 : decode bb_MO_undo 32 = .ok (.aload_n 0, 1) := by decide +kernel
theorem dd_MO_undo_33 : decode bb_MO_undo 33 = .ok (.bipush 6, 2) := by decide +kernel
theorem dd_MO_undo_35 : decode bb_MO_undo 35 = .ok (.invokevirtual 60, 3) := by decide +kernel
theorem dd_MO_undo_38 : decode bb_MO_undo 38 = .ok (.imul, 1) := by decide +kernel
theorem dd_MO_undo_39 : decode bb_MO_undo 39 = .ok (.iadd, 1) := by decide +kernel
theorem dd_MO_undo_40 : decode bb_MO_undo 40 = .ok (.istore_n 1, 1) := by decide +kernel
theorem dd_MO_undo_41 : decode bb_MO_undo 41 = .ok (.aload_n 0, 1) := by decide +kernel
theorem dd_MO_undo_42 : decode bb_MO_undo 42 = .ok (.iconst 5, 1) := by decide +kernel
theorem dd_MO_undo_43 : decode bb_MO_undo 43 = .ok (.aload_n 0, 1) := by decide +kernel
theorem dd_MO_undo_44 : decode bb_MO_undo 44 = .ok (.iload_n 1, 1) := by decide +kernel
theorem dd_MO_undo_45 : decode bb_MO_undo 45 = .ok (.invokevirtual 60, 3) := by decide +kernel
theorem dd_MO_undo_48 : decode bb_MO_undo 48 = .ok (.invokevirtual 68, 3) := by decide +kernel
theorem dd_MO_undo_51 : decode bb_MO_undo 51 = .ok (.iconst 0, 1) := by decide +kernel
theorem dd_MO_undo_52 : decode bb_MO_undo 52 = .ok (.istore_n 2, 1) := by decide +kernel
theorem dd_MO_undo_53 : decode bb_MO_undo 53 = .ok (.iload_n 2, 1) := by decide +kernel
theorem dd_MO_undo_54 : decode bb_MO_undo 54 = .ok (.bipush 6, 2) := by decide +kernel
theorem dd_MO_undo_56 : decode bb_MO_undo 56 = .ok (.if_icmp .ge 64, 3) := by decide +kernel
theorem dd_MO_undo_59 : decode bb_MO_undo 59 = .ok (.iconst 0, 1) := by decide +kernel
theorem dd_MO_undo_60 : decode bb_MO_undo 60 = .ok (.istore_n 3, 1) := by decide +kernel
theorem dd_MO_undo_61 : decode bb_MO_undo 61 = .ok (.iload_n 3, 1) := by decide +kernel
theorem dd_MO_undo_62 : decode bb_MO_undo 62 = .ok (.iconst 3, 1) := by decide +kernel
theorem dd_MO_undo_63 : decode bb_MO_undo 63 = .ok (.if_icmp .ge 51, 3) := by decide +kernel
theorem dd_MO_undo_66 : decode bb_MO_undo 66 = .ok (.aload_n 0, 1) := by decide +kernel
theorem dd_MO_undo_67 : decode bb_MO_undo 67 = .ok (.bipush 25, 2) := by decide +kernel
theorem dd_MO_undo_69 : decode bb_MO_undo 69 = .ok (.iconst 4, 1) := by decide +kernel
theorem dd_MO_undo_70 : decode bb_MO_undo 70 = .ok (.iload_n 2, 1) := by decide +kernel
theorem dd_MO_undo_71 : decode bb_MO_undo 71 = .ok (.imul, 1) := by decide +kernel
theorem dd_MO_undo_72 : decode bb_MO_undo 72 = .ok (.iadd, 1) := by decide +kernel
theorem dd_MO_undo_73 : decode bb_MO_undo 73 = .ok (.iconst 1, 1) := by decide +kernel
theorem dd_MO_undo_74 : decode bb_MO_undo 74 = .ok (.iadd, 1) := by decide +kernel
theorem dd_MO_undo_75 : decode bb_MO_undo 75 = .ok (.iload_n 3, 1) := by decide +kernel
theorem dd_MO_undo_76 : decode bb_MO_undo 76 = .ok (.iadd, 1) := by decide +kernel
theorem dd_MO_undo_77 : decode bb_MO_undo 77 = .ok (.iload_n 2, 1) := by decide +kernel
theorem dd_MO_undo_78 : decode bb_MO_undo 78 = .ok (.aload_n 0, 1) := by decide +kernel
theorem dd_MO_undo_79 : decode bb_MO_undo 79 = .ok (.iload_n 1, 1) := by decide +kernel
theorem dd_MO_undo_80 : decode bb_MO_undo 80 = .ok (.iconst 1, 1) := by decide +kernel
theorem dd_MO_undo_81 : decode bb_MO_undo 81 = .ok (.iadd, 1) := by decide +kernel
theorem dd_MO_undo_82 : decode bb_MO_undo 82 = .ok (.invokevirtual 60, 3) := by decide +kernel
theorem dd_MO_undo_85 : decode bb_MO_undo 85 = .ok (.if_icmp .ge 19, 3) := by decide +kernel
theorem dd_MO_undo_88 : decode bb_MO_undo 88 = .ok (.aload_n 0, 1) := by decide +kernel
theorem dd_MO_undo_89 : decode bb_MO_undo 89 = .ok (.iload_n 1, 1) := by decide +kernel
theorem dd_MO_undo_90 : decode bb_MO_undo 90 = .ok (.iconst 2, 1) := by decide +kernel
theorem dd_MO_undo_91 : decode bb_MO_undo 91 = .ok (.iadd, 1) := by decide +kernel
theorem dd_MO_undo_92 : decode bb_MO_undo 92 = .ok (.iconst 3, 1) := by decide +kernel
theorem dd_MO_undo_93 : decode bb_MO_undo 93 = .ok (.iload_n 2, 1) := by decide +kernel
theorem dd_MO_undo_94 : decode bb_MO_undo 94 = .ok (.imul, 1) := by decide +kernel
theorem dd_MO_undo_95 : decode bb_MO_undo 95 = .ok (.iadd, 1) := by decide +kernel
theorem dd_MO_undo_96 : decode bb_MO_undo 96 = .ok (.iload_n 3, 1) := by decide +kernel
theorem dd_MO_undo_97 : decode bb_MO_undo 97 = .ok (.iadd, 1) := by decide +kernel
theorem dd_MO_undo_98 : decode bb_MO_undo 98 = .ok (.invokevirtual 60, 3) := by decide +kernel
theorem dd_MO_undo_101 : decode bb_MO_undo 101 = .ok (.goto 4, 3) := by decide +kernel
theorem dd_MO_undo_104 : decode bb_MO_undo 104 = .ok (.iconst (-1), 1) := by decide +kernel
theorem dd_MO_undo_105 : decode bb_MO_undo 105 = .ok (.invokevirtual 68, 3) := by decide +kernel
theorem dd_MO_undo_108 : decode bb_MO_undo 108 = .ok (.iinc 3 1, 3) := by decide +kernel
theorem dd_MO_undo_111 : decode bb_MO_undo 111 = .ok (.goto (-50), 3) := by decide +kernel
theorem dd_MO_undo_114 : decode bb_MO_undo 114 = .ok (.iinc 2 1, 3) := by decide +kernel
theorem dd_MO_undo_117 : decode bb_MO_undo 117 = .ok (.goto (-64), 3) := by decide +kernel
theorem dd_MO_undo_120 : decode bb_MO_undo 120 = .ok (.iconst 1, 1) := by decide +kernel
theorem dd_MO_undo_121 : decode bb_MO_undo 121 = .ok (.ireturn, 1) := by decide +kernel
def ff_MO_undo_61 (k_53 : St → Nat → Int32 → Int32 → Option (Int32 × St)) : Nat → St → Nat → Int32 → Int32 → Int32 → Option (Int32 × St)
  | 0, _, _, _, _, _ => none
  | n + 1, x, v0, v1, v2, v3 => (if 3 ≤ v3 then k_53 x v0 v1 (v2 + 1) else bnd (ff_MO_get x v0 (v1 + 1)) (fun r_22 x_23 => (if r_22 ≤ v2 then bnd (ff_MO_set x_23 v0 (((25 + (4 * v2)) + 1) + v3) (-1)) (fun _ x_27 => ff_MO_undo_61 k_53 n x_27 v0 v1 v2 (v3 + 1)) else bnd (ff_MO_get x_23 v0 (((v1 + 2) + (3 * v2)) + v3)) (fun r_29 x_30 => bnd (ff_MO_set x_30 v0 (((25 + (4 * v2)) + 1) + v3) r_29) (fun _ x_33 => ff_MO_undo_61 k_53 n x_33 v0 v1 v2 (v3 + 1))))))
def ff_MO_undo_53  : Nat → St → Nat → Int32 → Int32 → Option (Int32 × St)
  | 0, _, _, _, _ => none
  | n + 1, x, v0, v1, v2 => (if 6 ≤ v2 then some (1, x) else ff_MO_undo_61 (ff_MO_undo_53 n) FU x v0 v1 v2 0)
def ff_MO_undo  (x : St) (v0 : Nat) : Option (Int32 × St) := bnd (ff_MO_get x v0 6) (fun r_1 x_2 => (if r_1 = 0 then bnd (ff_MO_no x_2 v0) (fun r_35 x_36 => some (r_35, x_36)) else bnd (ff_MO_get x_2 v0 6) (fun r_5 x_6 => bnd (ff_MO_set x_6 v0 6 (r_5 - 1)) (fun _ x_9 => bnd (ff_MO_get x_9 v0 6) (fun r_11 x_12 => bnd (ff_MO_get x_12 v0 (105 + (21 * r_11))) (fun r_14 x_15 => bnd (ff_MO_set x_15 v0 5 r_14) (fun _ x_18 => ff_MO_undo_53 FU x_18 v0 (105 + (21 * r_11)) 0)))))))
set_option maxHeartbeats 4000000 in
set_option maxRecDepth 100000 in
theorem ww_MO_undo_61 {p : Program} {l : Launch} {e : Env} {s : State} {m : MethodId} {args : Array Value} {below : List Frame} {meth : Method} {c : Code} {E : Ev} {A : Nat → Prop} {ad : Nat → Nat} {r : Int32} {x' : St} (C0 : Cx E A RMO bb_MO_undo 4 (some .int) p s m args meth c) (hap : Ap ad ixM A) {k_53 : St → Nat → Int32 → Int32 → Option (Int32 × St)} (hk_53 : ∀ (x : St) (v0 : Nat) (v1 : Int32) (v2 : Int32), (isO ixM v0 6) → k_53 x v0 v1 v2 = some (r, x') → ∀ (H : Heap) (locs : List Loc) (ls : Array Slot), Wd E ad ixM x H → va_S A s.heap H locs → lv_has ls 4 [(0, .ref (ad v0)), (1, .int v1), (2, .int v2)] → W p l e rm_MO_undo s m args below meth c H locs 0 0 (MQ below (QX E ad ixM A (some (.int r)) x') args s 0 0 A) (F0 m 53 ls [])) : ∀ (n : Nat), ∀ (x : St) (v0 : Nat) (v1 : Int32) (v2 : Int32) (v3 : Int32), (isO ixM v0 6) → ff_MO_undo_61 k_53 n x v0 v1 v2 v3 = some (r, x') → ∀ (H : Heap) (locs : List Loc) (ls : Array Slot), Wd E ad ixM x H → va_S A s.heap H locs → lv_has ls 4 [(0, .ref (ad v0)), (1, .int v1), (2, .int v2), (3, .int v3)] → W p l e rm_MO_undo s m args below meth c H locs 0 0 (MQ below (QX E ad ixM A (some (.int r)) x') args s 0 0 A) (F0 m 61 ls []) := by
  obtain ⟨hx, hb, hml, hr, hown, hts, hlk, hK⟩ := id C0
  intro n
  induction n with
  | zero => intro x v0 v1 v2 v3 ho_v0 hf; exact of_no hf
  | succ n ih =>
    intro x v0 v1 v2 v3 ho_v0 hf H locs ls hP hS hl
    have hf : (if 3 ≤ v3 then k_53 x v0 v1 (v2 + 1) else bnd (ff_MO_get x v0 (v1 + 1)) (fun r_22 x_23 => (if r_22 ≤ v2 then bnd (ff_MO_set x_23 v0 (((25 + (4 * v2)) + 1) + v3) (-1)) (fun _ x_27 => ff_MO_undo_61 k_53 n x_27 v0 v1 v2 (v3 + 1)) else bnd (ff_MO_get x_23 v0 (((v1 + 2) + (3 * v2)) + v3)) (fun r_29 x_30 => bnd (ff_MO_set x_30 v0 (((25 + (4 * v2)) + 1) + v3) r_29) (fun _ x_33 => ff_MO_undo_61 k_53 n x_33 v0 v1 v2 (v3 + 1)))))) = some (r, x') := hf
    refine lv_iload_n hx hb dd_MO_undo_61 rfl (lv_at hl 3 rfl) ?_
    refine lv_iconst (v := 3) hx hb dd_MO_undo_62 (by decide) ?_
    refine lv_icmp_ge (tgt := 114) hx hb dd_MO_undo_63 (by decide) (fun h_21 => ?_) (fun h_21 => ?_)
    · have hf := (if_pos h_21).symm.trans hf
      refine lv_iinc (v := v2 + 1) (lv' := [(2, .int (v2 + 1)), (0, .ref (ad v0)), (1, .int v1), (3, .int v3)]) hx hb dd_MO_undo_114 hl (k := 2) rfl rfl (by decide) rfl (fun ls hl => ?_)
      refine lv_goto (tgt := 53) hx hb dd_MO_undo_117 (by decide) ?_
      exact hk_53 x v0 v1 (v2 + 1) ho_v0 hf _ _ _ hP hS (lv_sub hl [1, 2, 0] rfl)
    · have hf := (if_neg h_21).symm.trans hf
      refine lv_aload_n hx hb dd_MO_undo_66 rfl (lv_at hl 0 rfl) ?_
      refine lv_bipush (v := 25) hx hb dd_MO_undo_67 (by decide) ?_
      refine lv_iconst (v := 4) hx hb dd_MO_undo_69 (by decide) ?_
      refine lv_iload_n hx hb dd_MO_undo_70 rfl (lv_at hl 2 rfl) ?_
      refine lv_imul hx hb dd_MO_undo_71 ?_
      refine lv_iadd hx hb dd_MO_undo_72 ?_
      refine lv_iconst (v := 1) hx hb dd_MO_undo_73 (by decide) ?_
      refine lv_iadd hx hb dd_MO_undo_74 ?_
      refine lv_iload_n hx hb dd_MO_undo_75 rfl (lv_at hl 3 rfl) ?_
      refine lv_iadd hx hb dd_MO_undo_76 ?_
      refine lv_iload_n hx hb dd_MO_undo_77 rfl (lv_at hl 2 rfl) ?_
      refine lv_aload_n hx hb dd_MO_undo_78 rfl (lv_at hl 0 rfl) ?_
      refine lv_iload_n hx hb dd_MO_undo_79 rfl (lv_at hl 1 rfl) ?_
      refine lv_iconst (v := 1) hx hb dd_MO_undo_80 (by decide) ?_
      refine lv_iadd hx hb dd_MO_undo_81 ?_
      obtain ⟨r_22, x_23, c_24, hf⟩ := of_bnd hf
      refine cl_MO_60 C0 hap ho_v0 c_24 hP hS ⟨Nat.le_of_ble_eq_true rfl, Nat.le_of_ble_eq_true rfl⟩ hl.1 (Nat.le_of_ble_eq_true rfl) dd_MO_undo_82 ⟨Nat.le_refl _, Nat.le_refl _⟩ (fun H locs hP hS => ?_)
      refine lv_icmp_ge (tgt := 104) hx hb dd_MO_undo_85 (by decide) (fun h_25 => ?_) (fun h_25 => ?_)
      · have hf := (if_pos h_25).symm.trans hf
        refine lv_iconst (v := -1) hx hb dd_MO_undo_104 (by decide) ?_
        obtain ⟨_, x_27, c_28, hf⟩ := of_bnd hf
        refine cl_MO_68 C0 hap ho_v0 c_28 hP hS ⟨Nat.le_of_ble_eq_true rfl, Nat.le_of_ble_eq_true rfl⟩ hl.1 (Nat.le_of_ble_eq_true rfl) dd_MO_undo_105 ⟨Nat.le_refl _, Nat.le_refl _⟩ (fun H locs hP hS => ?_)
        refine lv_iinc (v := v3 + 1) (lv' := [(3, .int (v3 + 1)), (0, .ref (ad v0)), (1, .int v1), (2, .int v2)]) hx hb dd_MO_undo_108 hl (k := 3) rfl rfl (by decide) rfl (fun ls hl => ?_)
        refine lv_goto (tgt := 61) hx hb dd_MO_undo_111 (by decide) ?_
        exact ih x_27 v0 v1 v2 (v3 + 1) ho_v0 hf _ _ _ hP hS (lv_sub hl [1, 2, 3, 0] rfl)
      · have hf := (if_neg h_25).symm.trans hf
        refine lv_aload_n hx hb dd_MO_undo_88 rfl (lv_at hl 0 rfl) ?_
        refine lv_iload_n hx hb dd_MO_undo_89 rfl (lv_at hl 1 rfl) ?_
        refine lv_iconst (v := 2) hx hb dd_MO_undo_90 (by decide) ?_
        refine lv_iadd hx hb dd_MO_undo_91 ?_
        refine lv_iconst (v := 3) hx hb dd_MO_undo_92 (by decide) ?_
        refine lv_iload_n hx hb dd_MO_undo_93 rfl (lv_at hl 2 rfl) ?_
        refine lv_imul hx hb dd_MO_undo_94 ?_
        refine lv_iadd hx hb dd_MO_undo_95 ?_
        refine lv_iload_n hx hb dd_MO_undo_96 rfl (lv_at hl 3 rfl) ?_
        refine lv_iadd hx hb dd_MO_undo_97 ?_
        obtain ⟨r_29, x_30, c_31, hf⟩ := of_bnd hf
        refine cl_MO_60 C0 hap ho_v0 c_31 hP hS ⟨Nat.le_of_ble_eq_true rfl, Nat.le_of_ble_eq_true rfl⟩ hl.1 (Nat.le_of_ble_eq_true rfl) dd_MO_undo_98 ⟨Nat.le_refl _, Nat.le_refl _⟩ (fun H locs hP hS => ?_)
        refine lv_goto (tgt := 105) hx hb dd_MO_undo_101 (by decide) ?_
        obtain ⟨_, x_33, c_34, hf⟩ := of_bnd hf
        refine cl_MO_68 C0 hap ho_v0 c_34 hP hS ⟨Nat.le_of_ble_eq_true rfl, Nat.le_of_ble_eq_true rfl⟩ hl.1 (Nat.le_of_ble_eq_true rfl) dd_MO_undo_105 ⟨Nat.le_refl _, Nat.le_refl _⟩ (fun H locs hP hS => ?_)
        refine lv_iinc (v := v3 + 1) (lv' := [(3, .int (v3 + 1)), (0, .ref (ad v0)), (1, .int v1), (2, .int v2)]) hx hb dd_MO_undo_108 hl (k := 3) rfl rfl (by decide) rfl (fun ls hl => ?_)
        refine lv_goto (tgt := 61) hx hb dd_MO_undo_111 (by decide) ?_
        exact ih x_33 v0 v1 v2 (v3 + 1) ho_v0 hf _ _ _ hP hS (lv_sub hl [1, 2, 3, 0] rfl)
set_option maxHeartbeats 4000000 in
set_option maxRecDepth 100000 in
theorem ww_MO_undo_53 {p : Program} {l : Launch} {e : Env} {s : State} {m : MethodId} {args : Array Value} {below : List Frame} {meth : Method} {c : Code} {E : Ev} {A : Nat → Prop} {ad : Nat → Nat} {r : Int32} {x' : St} (C0 : Cx E A RMO bb_MO_undo 4 (some .int) p s m args meth c) (hap : Ap ad ixM A)  : ∀ (n : Nat), ∀ (x : St) (v0 : Nat) (v1 : Int32) (v2 : Int32), (isO ixM v0 6) → ff_MO_undo_53 n x v0 v1 v2 = some (r, x') → ∀ (H : Heap) (locs : List Loc) (ls : Array Slot), Wd E ad ixM x H → va_S A s.heap H locs → lv_has ls 4 [(0, .ref (ad v0)), (1, .int v1), (2, .int v2)] → W p l e rm_MO_undo s m args below meth c H locs 0 0 (MQ below (QX E ad ixM A (some (.int r)) x') args s 0 0 A) (F0 m 53 ls []) := by
  obtain ⟨hx, hb, hml, hr, hown, hts, hlk, hK⟩ := id C0
  intro n
  induction n with
  | zero => intro x v0 v1 v2 ho_v0 hf; exact of_no hf
  | succ n ih =>
    intro x v0 v1 v2 ho_v0 hf H locs ls hP hS hl
    have hf : (if 6 ≤ v2 then some (1, x) else ff_MO_undo_61 (ff_MO_undo_53 n) FU x v0 v1 v2 0) = some (r, x') := hf
    refine lv_iload_n hx hb dd_MO_undo_53 rfl (lv_at hl 2 rfl) ?_
    refine lv_bipush (v := 6) hx hb dd_MO_undo_54 (by decide) ?_
    refine lv_icmp_ge (tgt := 120) hx hb dd_MO_undo_56 (by decide) (fun h_20 => ?_) (fun h_20 => ?_)
    · have hf := (if_pos h_20).symm.trans hf
      refine lv_iconst (v := 1) hx hb dd_MO_undo_120 (by decide) ?_
      exact rrI C0 hP hS dd_MO_undo_121 hf
    · have hf := (if_neg h_20).symm.trans hf
      refine lv_iconst (v := 0) hx hb dd_MO_undo_59 (by decide) ?_
      refine lv_istore_n (lv' := [(3, .int 0), (0, .ref (ad v0)), (1, .int v1), (2, .int v2)]) hx hb dd_MO_undo_60 rfl hl (by decide) rfl (fun ls hl => ?_)
      exact ww_MO_undo_61 C0 hap ih FU x v0 v1 v2 0 ho_v0 hf _ _ _ hP hS (lv_sub hl [1, 2, 3, 0] rfl)
set_option maxHeartbeats 4000000 in
set_option maxRecDepth 100000 in
theorem ww_MO_undo {p : Program} {l : Launch} {e : Env} {s : State} {m : MethodId} {args : Array Value} {below : List Frame} {meth : Method} {c : Code} {E : Ev} {A : Nat → Prop} {ad : Nat → Nat} {r : Int32} {x' : St} (C0 : Cx E A RMO bb_MO_undo 4 (some .int) p s m args meth c) (hap : Ap ad ixM A)  {x : St} {v0 : Nat} (ho_v0 : isO ixM v0 6) (hf : ff_MO_undo x v0 = some (r, x')) {H : Heap} {locs : List Loc} {ls : Array Slot} (hP : Wd E ad ixM x H) (hS : va_S A s.heap H locs) (hl : lv_has ls 4 [(0, .ref (ad v0))]) : W p l e rm_MO_undo s m args below meth c H locs 0 0 (MQ below (QX E ad ixM A (some (.int r)) x') args s 0 0 A) (F0 m 0 ls []) := by
  obtain ⟨hx, hb, hml, hr, hown, hts, hlk, hK⟩ := id C0
  have hf : bnd (ff_MO_get x v0 6) (fun r_1 x_2 => (if r_1 = 0 then bnd (ff_MO_no x_2 v0) (fun r_35 x_36 => some (r_35, x_36)) else bnd (ff_MO_get x_2 v0 6) (fun r_5 x_6 => bnd (ff_MO_set x_6 v0 6 (r_5 - 1)) (fun _ x_9 => bnd (ff_MO_get x_9 v0 6) (fun r_11 x_12 => bnd (ff_MO_get x_12 v0 (105 + (21 * r_11))) (fun r_14 x_15 => bnd (ff_MO_set x_15 v0 5 r_14) (fun _ x_18 => ff_MO_undo_53 FU x_18 v0 (105 + (21 * r_11)) 0))))))) = some (r, x') := hf
  refine lv_aload_n hx hb dd_MO_undo_0 rfl (lv_at hl 0 rfl) ?_
  refine lv_bipush (v := 6) hx hb dd_MO_undo_1 (by decide) ?_
  obtain ⟨r_1, x_2, c_3, hf⟩ := of_bnd hf
  refine cl_MO_60 C0 hap ho_v0 c_3 hP hS ⟨Nat.le_of_ble_eq_true rfl, Nat.le_of_ble_eq_true rfl⟩ hl.1 (Nat.le_of_ble_eq_true rfl) dd_MO_undo_3 ⟨Nat.le_refl _, Nat.le_refl _⟩ (fun H locs hP hS => ?_)
  refine lv_if_ne (tgt := 14) hx hb dd_MO_undo_6 (by decide) (fun h_4 => ?_) (fun h_4 => ?_)
  · have hf := (if_neg h_4).symm.trans hf
    refine lv_aload_n hx hb dd_MO_undo_14 rfl (lv_at hl 0 rfl) ?_
    refine lv_bipush (v := 6) hx hb dd_MO_undo_15 (by decide) ?_
    refine lv_aload_n hx hb dd_MO_undo_17 rfl (lv_at hl 0 rfl) ?_
    refine lv_bipush (v := 6) hx hb dd_MO_undo_18 (by decide) ?_
    obtain ⟨r_5, x_6, c_7, hf⟩ := of_bnd hf
    refine cl_MO_60 C0 hap ho_v0 c_7 hP hS ⟨Nat.le_of_ble_eq_true rfl, Nat.le_of_ble_eq_true rfl⟩ hl.1 (Nat.le_of_ble_eq_true rfl) dd_MO_undo_20 ⟨Nat.le_refl _, Nat.le_refl _⟩ (fun H locs hP hS => ?_)
    refine lv_iconst (v := 1) hx hb dd_MO_undo_23 (by decide) ?_
    refine lv_isub hx hb dd_MO_undo_24 ?_
    obtain ⟨_, x_9, c_10, hf⟩ := of_bnd hf
    refine cl_MO_68 C0 hap ho_v0 c_10 hP hS ⟨Nat.le_of_ble_eq_true rfl, Nat.le_of_ble_eq_true rfl⟩ hl.1 (Nat.le_of_ble_eq_true rfl) dd_MO_undo_25 ⟨Nat.le_refl _, Nat.le_refl _⟩ (fun H locs hP hS => ?_)
    refine lv_bipush (v := 105) hx hb dd_MO_undo_28 (by decide) ?_
    refine lv_bipush (v := 21) hx hb dd_MO_undo_30 (by decide) ?_
    refine lv_aload_n hx hb dd_MO_undo_32 rfl (lv_at hl 0 rfl) ?_
    refine lv_bipush (v := 6) hx hb dd_MO_undo_33 (by decide) ?_
    obtain ⟨r_11, x_12, c_13, hf⟩ := of_bnd hf
    refine cl_MO_60 C0 hap ho_v0 c_13 hP hS ⟨Nat.le_of_ble_eq_true rfl, Nat.le_of_ble_eq_true rfl⟩ hl.1 (Nat.le_of_ble_eq_true rfl) dd_MO_undo_35 ⟨Nat.le_refl _, Nat.le_refl _⟩ (fun H locs hP hS => ?_)
    refine lv_imul hx hb dd_MO_undo_38 ?_
    refine lv_iadd hx hb dd_MO_undo_39 ?_
    refine lv_istore_n (lv' := [(1, .int (105 + (21 * r_11))), (0, .ref (ad v0))]) hx hb dd_MO_undo_40 rfl hl (by decide) rfl (fun ls hl => ?_)
    refine lv_aload_n hx hb dd_MO_undo_41 rfl (lv_at hl 1 rfl) ?_
    refine lv_iconst (v := 5) hx hb dd_MO_undo_42 (by decide) ?_
    refine lv_aload_n hx hb dd_MO_undo_43 rfl (lv_at hl 1 rfl) ?_
    refine lv_iload_n hx hb dd_MO_undo_44 rfl (lv_at hl 0 rfl) ?_
    obtain ⟨r_14, x_15, c_16, hf⟩ := of_bnd hf
    refine cl_MO_60 C0 hap ho_v0 c_16 hP hS ⟨Nat.le_of_ble_eq_true rfl, Nat.le_of_ble_eq_true rfl⟩ hl.1 (Nat.le_of_ble_eq_true rfl) dd_MO_undo_45 ⟨Nat.le_refl _, Nat.le_refl _⟩ (fun H locs hP hS => ?_)
    obtain ⟨_, x_18, c_19, hf⟩ := of_bnd hf
    refine cl_MO_68 C0 hap ho_v0 c_19 hP hS ⟨Nat.le_of_ble_eq_true rfl, Nat.le_of_ble_eq_true rfl⟩ hl.1 (Nat.le_of_ble_eq_true rfl) dd_MO_undo_48 ⟨Nat.le_refl _, Nat.le_refl _⟩ (fun H locs hP hS => ?_)
    refine lv_iconst (v := 0) hx hb dd_MO_undo_51 (by decide) ?_
    refine lv_istore_n (lv' := [(2, .int 0), (1, .int (105 + (21 * r_11))), (0, .ref (ad v0))]) hx hb dd_MO_undo_52 rfl hl (by decide) rfl (fun ls hl => ?_)
    exact ww_MO_undo_53 C0 hap  FU x_18 v0 (105 + (21 * r_11)) 0 ho_v0 hf _ _ _ hP hS (lv_sub hl [2, 1, 0] rfl)
  · have hf := (if_pos h_4).symm.trans hf
    refine lv_aload_n hx hb dd_MO_undo_9 rfl (lv_at hl 0 rfl) ?_
    obtain ⟨r_35, x_36, c_37, hf⟩ := of_bnd hf
    refine cl_MO_100 C0 hap ho_v0 c_37 hP hS ⟨Nat.le_of_ble_eq_true rfl, Nat.le_of_ble_eq_true rfl⟩ hl.1 (Nat.le_of_ble_eq_true rfl) dd_MO_undo_10 ⟨Nat.le_refl _, Nat.le_refl _⟩ (fun H locs hP hS => ?_)
    exact rrI C0 hP hS dd_MO_undo_13 hf
theorem cc_MO_undo {l : Launch} {E : Ev} {A : Nat → Prop} {ad : Nat → Nat} (hap : Ap ad ixM A) {x x' : St} {v0 : Nat} {r : Int32} (ho_v0 : isO ixM v0 6) (hf : ff_MO_undo x v0 = some (r, x')) : Met l yy_MO_undo (Cond.code yy_MO_undo bb_MO_undo 4 (some .int) :: gtb) rm_MO_undo (va_Pc [.ref (ad v0)] (PB E A ad ixM x)) (QX E ad ixM A (some (.int r)) x') 0 0 A := by
  exact enter (by decide) (Nat.le_of_ble_eq_true rfl) (fun p e s m below meth c ls C0 hP hS hl => ww_MO_undo C0 hap ho_v0 hf hP hS hl)
abbrev rm_MO_less : Room := { frames := 0, cells := 0, slots := 0, locals := 0 }
theorem dd_MO_less_0 : decode bb_MO_less 0 = .ok (.iload_n 0, 1) := by decide +kernel
theorem dd_MO_less_1 : decode bb_MO_less 1 = .ok (.iload_n 1, 1) := by decide +kernel
theorem dd_MO_less_2 : decode bb_MO_less 2 = .ok (.if_icmp .le 9, 3) := by decide +kernel
theorem dd_MO_less_5 : decode bb_MO_less 5 = .ok (.iload_n 0, 1) := by decide +kernel
theorem dd_MO_less_6 : decode bb_MO_less 6 = .ok (.iload_n 1, 1) := by decide +kernel
theorem dd_MO_less_7 : decode bb_MO_less 7 = .ok (.isub, 1) := by decide +kernel
theorem dd_MO_less_8 : decode bb_MO_less 8 = .ok (.goto 4, 3) := by decide +kernel
theorem dd_MO_less_11 : decode bb_MO_less 11 = .ok (.iconst 0, 1) := by decide +kernel
theorem dd_MO_less_12 : decode bb_MO_less 12 = .ok (.ireturn, 1) := by decide +kernel
def ff_MO_less  (x : St) (v0 : Int32) (v1 : Int32) : Option (Int32 × St) := (if v0 ≤ v1 then some (0, x) else some (v0 - v1, x))
set_option maxHeartbeats 4000000 in
set_option maxRecDepth 100000 in
theorem ww_MO_less {p : Program} {l : Launch} {e : Env} {s : State} {m : MethodId} {args : Array Value} {below : List Frame} {meth : Method} {c : Code} {E : Ev} {A : Nat → Prop} {ad : Nat → Nat} {r : Int32} {x' : St} (C0 : Cx E A RMO bb_MO_less 2 (some .int) p s m args meth c) (hap : Ap ad ixM A)  {x : St} {v0 : Int32} {v1 : Int32}  (hf : ff_MO_less x v0 v1 = some (r, x')) {H : Heap} {locs : List Loc} {ls : Array Slot} (hP : Wd E ad ixM x H) (hS : va_S A s.heap H locs) (hl : lv_has ls 2 [(0, .int v0), (1, .int v1)]) : W p l e rm_MO_less s m args below meth c H locs 0 0 (MQ below (QX E ad ixM A (some (.int r)) x') args s 0 0 A) (F0 m 0 ls []) := by
  obtain ⟨hx, hb, hml, hr, hown, hts, hlk, hK⟩ := id C0
  have hf : (if v0 ≤ v1 then some (0, x) else some (v0 - v1, x)) = some (r, x') := hf
  refine lv_iload_n hx hb dd_MO_less_0 rfl (lv_at hl 0 rfl) ?_
  refine lv_iload_n hx hb dd_MO_less_1 rfl (lv_at hl 1 rfl) ?_
  refine lv_icmp_le (tgt := 11) hx hb dd_MO_less_2 (by decide) (fun h_1 => ?_) (fun h_1 => ?_)
  · have hf := (if_pos h_1).symm.trans hf
    refine lv_iconst (v := 0) hx hb dd_MO_less_11 (by decide) ?_
    exact rrI C0 hP hS dd_MO_less_12 hf
  · have hf := (if_neg h_1).symm.trans hf
    refine lv_iload_n hx hb dd_MO_less_5 rfl (lv_at hl 0 rfl) ?_
    refine lv_iload_n hx hb dd_MO_less_6 rfl (lv_at hl 1 rfl) ?_
    refine lv_isub hx hb dd_MO_less_7 ?_
    refine lv_goto (tgt := 12) hx hb dd_MO_less_8 (by decide) ?_
    exact rrI C0 hP hS dd_MO_less_12 hf
theorem cc_MO_less {l : Launch} {E : Ev} {A : Nat → Prop} {ad : Nat → Nat} (hap : Ap ad ixM A) {x x' : St} {v0 : Int32} {v1 : Int32} {r : Int32}  (hf : ff_MO_less x v0 v1 = some (r, x')) : Met l yy_MO_less (Cond.code yy_MO_less bb_MO_less 2 (some .int) :: gtb) rm_MO_less (va_Pc [.int v0, .int v1] (PB E A ad ixM x)) (QX E ad ixM A (some (.int r)) x') 0 0 A := by
  exact enter (by decide) (Nat.le_of_ble_eq_true rfl) (fun p e s m below meth c ls C0 hP hS hl => ww_MO_less C0 hap  hf hP hS hl)
theorem cl_MO_173 {p : Program} {l : Launch} {e : Env} {R : Room} {s : State} {m : MethodId} {args : Array Value} {below : List Frame} {meth : Method} {c : Code} {H : Heap} {locs : List Loc} {cells slots : Nat} {Q : State → Prop} {cc : ByteArray} {pc : Nat} {ls : Array Slot} {rest : List Value} {E : Ev} {A : Nat → Prop} {ad : Nat → Nat} {nL : Nat} {rt : Option FieldType} (C0 : Cx E A RMO cc nL rt p s m args meth c) (hap : Ap ad ixM A) {x x' : St} {v0 : Int32} {v1 : Int32} {r : Int32}  (hc : ff_MO_less x v0 v1 = some (r, x')) (hP : Wd E ad ixM x H) (hS : va_S A s.heap H locs) (hR : rm_MO_less.frames + 1 ≤ R.frames ∧ 8 + (2 + 11) + rm_MO_less.locals ≤ R.locals) (hls : ls.size = nL) (hroom : (rest.map fun v => v.category).sum ≤ 8) (hdg : decode cc pc = .ok (.invokestatic 173, 3)) (hf : cells ≤ R.cells ∧ slots ≤ R.slots) (kk : ∀ H1 locs1, Wd E ad ixM x' H1 → va_S A s.heap H1 locs1 → W p l e R s m args below meth c H1 locs1 cells slots Q (F0 m (pc + 3) ls (.int r :: rest))) : W p l e R s m args below meth c H locs cells slots Q (F0 m pc ls (.int v1 :: .int v0 :: rest)) :=
  rcS (n := 2) C0 (cc_MO_less hap  hc) hP hS gw_code_MO_less gw_m_MO_173 gw_static_MO_less gw_ini_MO rfl rfl (by decide +kernel) rfl hR hls rfl hroom hdg hf (fun H1 locs1 a _ _ b => kk H1 locs1 a b)
abbrev rm_MO_widow : Room := { frames := 1, cells := 0, slots := 0, locals := 21 }
theorem dd_MO_widow_0 : decode bb_MO_widow 0 = .ok (.iload_n 1, 1) := by decide +kernel
theorem dd_MO_widow_1 : decode bb_MO_widow 1 = .ok (.bipush 7, 2) := by decide +kernel
theorem dd_MO_widow_3 : decode bb_MO_widow 3 = .ok (.irem, 1) := by decide +kernel
theorem dd_MO_widow_4 : decode bb_MO_widow 4 = .ok (.ifCond .ne 7, 3) := by decide +kernel
theorem dd_MO_widow_7 : decode bb_MO_widow 7 = .ok (.iload_n 0, 1) := by decide +kernel
theorem dd_MO_widow_8 : decode bb_MO_widow 8 = .ok (.goto 8, 3) := by decide +kernel
theorem dd_MO_widow_11 : decode bb_MO_widow 11 = .ok (.iload_n 0, 1) := by decide +kernel
theorem dd_MO_widow_12 : decode bb_MO_widow 12 = .ok (.iconst 1, 1) := by decide +kernel
theorem dd_MO_widow_13 : decode bb_MO_widow 13 = .ok (.invokestatic 173, 3) := by decide +kernel
theorem dd_MO_widow_16 : decode bb_MO_widow 16 = .ok (.ireturn, 1) := by decide +kernel
def ff_MO_widow  (x : St) (v0 : Int32) (v1 : Int32) : Option (Int32 × St) := (if (v1 - v1 / 7 * 7) = 0 then some (v0, x) else bnd (ff_MO_less x v0 1) (fun r_2 x_3 => some (r_2, x_3)))
set_option maxHeartbeats 4000000 in
set_option maxRecDepth 100000 in
theorem ww_MO_widow {p : Program} {l : Launch} {e : Env} {s : State} {m : MethodId} {args : Array Value} {below : List Frame} {meth : Method} {c : Code} {E : Ev} {A : Nat → Prop} {ad : Nat → Nat} {r : Int32} {x' : St} (C0 : Cx E A RMO bb_MO_widow 2 (some .int) p s m args meth c) (hap : Ap ad ixM A)  {x : St} {v0 : Int32} {v1 : Int32}  (hf : ff_MO_widow x v0 v1 = some (r, x')) {H : Heap} {locs : List Loc} {ls : Array Slot} (hP : Wd E ad ixM x H) (hS : va_S A s.heap H locs) (hl : lv_has ls 2 [(0, .int v0), (1, .int v1)]) : W p l e rm_MO_widow s m args below meth c H locs 0 0 (MQ below (QX E ad ixM A (some (.int r)) x') args s 0 0 A) (F0 m 0 ls []) := by
  obtain ⟨hx, hb, hml, hr, hown, hts, hlk, hK⟩ := id C0
  have hf : (if (v1 - v1 / 7 * 7) = 0 then some (v0, x) else bnd (ff_MO_less x v0 1) (fun r_2 x_3 => some (r_2, x_3))) = some (r, x') := hf
  refine lv_iload_n hx hb dd_MO_widow_0 rfl (lv_at hl 1 rfl) ?_
  refine lv_bipush (v := 7) hx hb dd_MO_widow_1 (by decide) ?_
  refine lv_irem hx hb dd_MO_widow_3 (by decide) ?_
  refine lv_if_ne (tgt := 11) hx hb dd_MO_widow_4 (by decide) (fun h_1 => ?_) (fun h_1 => ?_)
  · have hf := (if_neg h_1).symm.trans hf
    refine lv_iload_n hx hb dd_MO_widow_11 rfl (lv_at hl 0 rfl) ?_
    refine lv_iconst (v := 1) hx hb dd_MO_widow_12 (by decide) ?_
    obtain ⟨r_2, x_3, c_4, hf⟩ := of_bnd hf
    refine cl_MO_173 C0 hap  c_4 hP hS ⟨Nat.le_of_ble_eq_true rfl, Nat.le_of_ble_eq_true rfl⟩ hl.1 (Nat.le_of_ble_eq_true rfl) dd_MO_widow_13 ⟨Nat.le_refl _, Nat.le_refl _⟩ (fun H locs hP hS => ?_)
    exact rrI C0 hP hS dd_MO_widow_16 hf
  · have hf := (if_pos h_1).symm.trans hf
    refine lv_iload_n hx hb dd_MO_widow_7 rfl (lv_at hl 0 rfl) ?_
    refine lv_goto (tgt := 16) hx hb dd_MO_widow_8 (by decide) ?_
    exact rrI C0 hP hS dd_MO_widow_16 hf
theorem cc_MO_widow {l : Launch} {E : Ev} {A : Nat → Prop} {ad : Nat → Nat} (hap : Ap ad ixM A) {x x' : St} {v0 : Int32} {v1 : Int32} {r : Int32}  (hf : ff_MO_widow x v0 v1 = some (r, x')) : Met l yy_MO_widow (Cond.code yy_MO_widow bb_MO_widow 2 (some .int) :: gtb) rm_MO_widow (va_Pc [.int v0, .int v1] (PB E A ad ixM x)) (QX E ad ixM A (some (.int r)) x') 0 0 A := by
  exact enter (by decide) (Nat.le_of_ble_eq_true rfl) (fun p e s m below meth c ls C0 hP hS hl => ww_MO_widow C0 hap  hf hP hS hl)
theorem cl_MO_176 {p : Program} {l : Launch} {e : Env} {R : Room} {s : State} {m : MethodId} {args : Array Value} {below : List Frame} {meth : Method} {c : Code} {H : Heap} {locs : List Loc} {cells slots : Nat} {Q : State → Prop} {cc : ByteArray} {pc : Nat} {ls : Array Slot} {rest : List Value} {E : Ev} {A : Nat → Prop} {ad : Nat → Nat} {nL : Nat} {rt : Option FieldType} (C0 : Cx E A RMO cc nL rt p s m args meth c) (hap : Ap ad ixM A) {x x' : St} {v0 : Int32} {v1 : Int32} {r : Int32}  (hc : ff_MO_widow x v0 v1 = some (r, x')) (hP : Wd E ad ixM x H) (hS : va_S A s.heap H locs) (hR : rm_MO_widow.frames + 1 ≤ R.frames ∧ 8 + (2 + 11) + rm_MO_widow.locals ≤ R.locals) (hls : ls.size = nL) (hroom : (rest.map fun v => v.category).sum ≤ 8) (hdg : decode cc pc = .ok (.invokestatic 176, 3)) (hf : cells ≤ R.cells ∧ slots ≤ R.slots) (kk : ∀ H1 locs1, Wd E ad ixM x' H1 → va_S A s.heap H1 locs1 → W p l e R s m args below meth c H1 locs1 cells slots Q (F0 m (pc + 3) ls (.int r :: rest))) : W p l e R s m args below meth c H locs cells slots Q (F0 m pc ls (.int v1 :: .int v0 :: rest)) :=
  rcS (n := 2) C0 (cc_MO_widow hap  hc) hP hS gw_code_MO_widow gw_m_MO_176 gw_static_MO_widow gw_ini_MO rfl rfl (by decide +kernel) rfl hR hls rfl hroom hdg hf (fun H1 locs1 a _ _ b => kk H1 locs1 a b)
abbrev rm_MO_step : Room := { frames := 2, cells := 0, slots := 0, locals := 42 }
theorem dd_MO_step_0 : decode bb_MO_step 0 = .ok (.iload_n 0, 1) := by decide +kernel
theorem dd_MO_step_1 : decode bb_MO_step 1 = .ok (.tableswitch 85 0 4 #[35, 41, 47, 53, 69], 35) := by decide +kernel
theorem dd_MO_step_36 : decode bb_MO_step 36 = .ok (.iload_n 1, 1) := by decide +kernel
theorem dd_MO_step_37 : decode bb_MO_step 37 = .ok (.iconst 1, 1) := by decide +kernel
theorem dd_MO_step_38 : decode bb_MO_step 38 = .ok (.invokestatic 173, 3) := by decide +kernel
theorem dd_MO_step_41 : decode bb_MO_step 41 = .ok (.ireturn, 1) := by decide +kernel
theorem dd_MO_step_42 : decode bb_MO_step 42 = .ok (.iload_n 1, 1) := by decide +kernel
theorem dd_MO_step_43 : decode bb_MO_step 43 = .ok (.iload_n 2, 1) := by decide +kernel
theorem dd_MO_step_44 : decode bb_MO_step 44 = .ok (.invokestatic 176, 3) := by decide +kernel
theorem dd_MO_step_47 : decode bb_MO_step 47 = .ok (.ireturn, 1) := by decide +kernel
theorem dd_MO_step_48 : decode bb_MO_step 48 = .ok (.iload_n 1, 1) := by decide +kernel
theorem dd_MO_step_49 : decode bb_MO_step 49 = .ok (.iconst 3, 1) := by decide +kernel
theorem dd_MO_step_50 : decode bb_MO_step 50 = .ok (.invokestatic 173, 3) := by decide +kernel
theorem dd_MO_step_53 : decode bb_MO_step 53 = .ok (.ireturn, 1) := by decide +kernel
theorem dd_MO_step_54 : decode bb_MO_step 54 = .ok (.iload_n 2, 1) := by decide +kernel
theorem dd_MO_step_55 : decode bb_MO_step 55 = .ok (.bipush 20, 2) := by decide +kernel
theorem dd_MO_step_57 : decode bb_MO_step 57 = .ok (.if_icmp .le 7, 3) := by decide +kernel
theorem dd_MO_step_60 : decode bb_MO_step 60 = .ok (.iconst 0, 1) := by decide +kernel
theorem dd_MO_step_61 : decode bb_MO_step 61 = .ok (.goto 8, 3) := by decide +kernel
theorem dd_MO_step_64 : decode bb_MO_step 64 = .ok (.iload_n 1, 1) := by decide +kernel
theorem dd_MO_step_65 : decode bb_MO_step 65 = .ok (.iload_n 2, 1) := by decide +kernel
theorem dd_MO_step_66 : decode bb_MO_step 66 = .ok (.invokestatic 176, 3) := by decide +kernel
theorem dd_MO_step_69 : decode bb_MO_step 69 = .ok (.ireturn, 1) := by decide +kernel
theorem dd_MO_step_70 : decode bb_MO_step 70 = .ok (.iload_n 1, 1) := by decide +kernel
theorem dd_MO_step_71 : decode bb_MO_step 71 = .ok (.bipush 50, 2) := by decide +kernel
theorem dd_MO_step_73 : decode bb_MO_step 73 = .ok (.if_icmp .le 11, 3) := by decide +kernel
theorem dd_MO_step_76 : decode bb_MO_step 76 = .ok (.iload_n 1, 1) := by decide +kernel
theorem dd_MO_step_77 : decode bb_MO_step 77 = .ok (.iconst 3, 1) := by decide +kernel
theorem dd_MO_step_78 : decode bb_MO_step 78 = .ok (.invokestatic 173, 3) := by decide +kernel
theorem dd_MO_step_81 : decode bb_MO_step 81 = .ok (.goto 4, 3) := by decide +kernel
theorem dd_MO_step_84 : decode bb_MO_step 84 = .ok (.iload_n 1, 1) := by decide +kernel
theorem dd_MO_step_85 : decode bb_MO_step 85 = .ok (.ireturn, 1) := by decide +kernel
theorem dd_MO_step_86 : decode bb_MO_step 86 = .ok (.iload_n 1, 1) := by decide +kernel
theorem dd_MO_step_87 : decode bb_MO_step 87 = .ok (.iload_n 2, 1) := by decide +kernel
theorem dd_MO_step_88 : decode bb_MO_step 88 = .ok (.invokestatic 176, 3) := by decide +kernel
theorem dd_MO_step_91 : decode bb_MO_step 91 = .ok (.iload_n 2, 1) := by decide +kernel
theorem dd_MO_step_92 : decode bb_MO_step 92 = .ok (.invokestatic 176, 3) := by decide +kernel
theorem dd_MO_step_95 : decode bb_MO_step 95 = .ok (.ireturn, 1) := by decide +kernel
def ff_MO_step  (x : St) (v0 : Int32) (v1 : Int32) (v2 : Int32) : Option (Int32 × St) := (if v0 = 0 then bnd (ff_MO_less x v1 1) (fun r_2 x_3 => some (r_2, x_3)) else (if v0 = 1 then bnd (ff_MO_widow x v1 v2) (fun r_6 x_7 => some (r_6, x_7)) else (if v0 = 2 then bnd (ff_MO_less x v1 3) (fun r_10 x_11 => some (r_10, x_11)) else (if v0 = 3 then (if v2 ≤ 20 then bnd (ff_MO_widow x v1 v2) (fun r_15 x_16 => some (r_15, x_16)) else some (0, x)) else (if v0 = 4 then (if v1 ≤ 50 then some (v1, x) else bnd (ff_MO_less x v1 3) (fun r_20 x_21 => some (r_20, x_21))) else bnd (ff_MO_widow x v1 v2) (fun r_23 x_24 => bnd (ff_MO_widow x_24 r_23 v2) (fun r_26 x_27 => some (r_26, x_27))))))))
set_option maxHeartbeats 4000000 in
set_option maxRecDepth 100000 in
theorem ww_MO_step {p : Program} {l : Launch} {e : Env} {s : State} {m : MethodId} {args : Array Value} {below : List Frame} {meth : Method} {c : Code} {E : Ev} {A : Nat → Prop} {ad : Nat → Nat} {r : Int32} {x' : St} (C0 : Cx E A RMO bb_MO_step 3 (some .int) p s m args meth c) (hap : Ap ad ixM A)  {x : St} {v0 : Int32} {v1 : Int32} {v2 : Int32}  (hf : ff_MO_step x v0 v1 v2 = some (r, x')) {H : Heap} {locs : List Loc} {ls : Array Slot} (hP : Wd E ad ixM x H) (hS : va_S A s.heap H locs) (hl : lv_has ls 3 [(0, .int v0), (1, .int v1), (2, .int v2)]) : W p l e rm_MO_step s m args below meth c H locs 0 0 (MQ below (QX E ad ixM A (some (.int r)) x') args s 0 0 A) (F0 m 0 ls []) := by
  obtain ⟨hx, hb, hml, hr, hown, hts, hlk, hK⟩ := id C0
  have hf : (if v0 = 0 then bnd (ff_MO_less x v1 1) (fun r_2 x_3 => some (r_2, x_3)) else (if v0 = 1 then bnd (ff_MO_widow x v1 v2) (fun r_6 x_7 => some (r_6, x_7)) else (if v0 = 2 then bnd (ff_MO_less x v1 3) (fun r_10 x_11 => some (r_10, x_11)) else (if v0 = 3 then (if v2 ≤ 20 then bnd (ff_MO_widow x v1 v2) (fun r_15 x_16 => some (r_15, x_16)) else some (0, x)) else (if v0 = 4 then (if v1 ≤ 50 then some (v1, x) else bnd (ff_MO_less x v1 3) (fun r_20 x_21 => some (r_20, x_21))) else bnd (ff_MO_widow x v1 v2) (fun r_23 x_24 => bnd (ff_MO_widow x_24 r_23 v2) (fun r_26 x_27 => some (r_26, x_27)))))))) = some (r, x') := hf
  refine lv_iload_n hx hb dd_MO_step_0 rfl (lv_at hl 0 rfl) ?_
  by_cases h_1 : v0 = 0
  · have hf := (if_pos h_1).symm.trans hf
    refine lv_tableIn (off := 35) (tgt := 36) hx hb dd_MO_step_1 (by rw [h_1]; decide) (by rw [h_1]; decide) (by rw [h_1]; decide) (by decide) ?_
    refine lv_iload_n hx hb dd_MO_step_36 rfl (lv_at hl 1 rfl) ?_
    refine lv_iconst (v := 1) hx hb dd_MO_step_37 (by decide) ?_
    obtain ⟨r_2, x_3, c_4, hf⟩ := of_bnd hf
    refine cl_MO_173 C0 hap  c_4 hP hS ⟨Nat.le_of_ble_eq_true rfl, Nat.le_of_ble_eq_true rfl⟩ hl.1 (Nat.le_of_ble_eq_true rfl) dd_MO_step_38 ⟨Nat.le_refl _, Nat.le_refl _⟩ (fun H locs hP hS => ?_)
    exact rrI C0 hP hS dd_MO_step_41 hf
  have hf := (if_neg h_1).symm.trans hf
  by_cases h_5 : v0 = 1
  · have hf := (if_pos h_5).symm.trans hf
    refine lv_tableIn (off := 41) (tgt := 42) hx hb dd_MO_step_1 (by rw [h_5]; decide) (by rw [h_5]; decide) (by rw [h_5]; decide) (by decide) ?_
    refine lv_iload_n hx hb dd_MO_step_42 rfl (lv_at hl 1 rfl) ?_
    refine lv_iload_n hx hb dd_MO_step_43 rfl (lv_at hl 2 rfl) ?_
    obtain ⟨r_6, x_7, c_8, hf⟩ := of_bnd hf
    refine cl_MO_176 C0 hap  c_8 hP hS ⟨Nat.le_of_ble_eq_true rfl, Nat.le_of_ble_eq_true rfl⟩ hl.1 (Nat.le_of_ble_eq_true rfl) dd_MO_step_44 ⟨Nat.le_refl _, Nat.le_refl _⟩ (fun H locs hP hS => ?_)
    exact rrI C0 hP hS dd_MO_step_47 hf
  have hf := (if_neg h_5).symm.trans hf
  by_cases h_9 : v0 = 2
  · have hf := (if_pos h_9).symm.trans hf
    refine lv_tableIn (off := 47) (tgt := 48) hx hb dd_MO_step_1 (by rw [h_9]; decide) (by rw [h_9]; decide) (by rw [h_9]; decide) (by decide) ?_
    refine lv_iload_n hx hb dd_MO_step_48 rfl (lv_at hl 1 rfl) ?_
    refine lv_iconst (v := 3) hx hb dd_MO_step_49 (by decide) ?_
    obtain ⟨r_10, x_11, c_12, hf⟩ := of_bnd hf
    refine cl_MO_173 C0 hap  c_12 hP hS ⟨Nat.le_of_ble_eq_true rfl, Nat.le_of_ble_eq_true rfl⟩ hl.1 (Nat.le_of_ble_eq_true rfl) dd_MO_step_50 ⟨Nat.le_refl _, Nat.le_refl _⟩ (fun H locs hP hS => ?_)
    exact rrI C0 hP hS dd_MO_step_53 hf
  have hf := (if_neg h_9).symm.trans hf
  by_cases h_13 : v0 = 3
  · have hf := (if_pos h_13).symm.trans hf
    refine lv_tableIn (off := 53) (tgt := 54) hx hb dd_MO_step_1 (by rw [h_13]; decide) (by rw [h_13]; decide) (by rw [h_13]; decide) (by decide) ?_
    refine lv_iload_n hx hb dd_MO_step_54 rfl (lv_at hl 2 rfl) ?_
    refine lv_bipush (v := 20) hx hb dd_MO_step_55 (by decide) ?_
    refine lv_icmp_le (tgt := 64) hx hb dd_MO_step_57 (by decide) (fun h_14 => ?_) (fun h_14 => ?_)
    · have hf := (if_pos h_14).symm.trans hf
      refine lv_iload_n hx hb dd_MO_step_64 rfl (lv_at hl 1 rfl) ?_
      refine lv_iload_n hx hb dd_MO_step_65 rfl (lv_at hl 2 rfl) ?_
      obtain ⟨r_15, x_16, c_17, hf⟩ := of_bnd hf
      refine cl_MO_176 C0 hap  c_17 hP hS ⟨Nat.le_of_ble_eq_true rfl, Nat.le_of_ble_eq_true rfl⟩ hl.1 (Nat.le_of_ble_eq_true rfl) dd_MO_step_66 ⟨Nat.le_refl _, Nat.le_refl _⟩ (fun H locs hP hS => ?_)
      exact rrI C0 hP hS dd_MO_step_69 hf
    · have hf := (if_neg h_14).symm.trans hf
      refine lv_iconst (v := 0) hx hb dd_MO_step_60 (by decide) ?_
      refine lv_goto (tgt := 69) hx hb dd_MO_step_61 (by decide) ?_
      exact rrI C0 hP hS dd_MO_step_69 hf
  have hf := (if_neg h_13).symm.trans hf
  by_cases h_18 : v0 = 4
  · have hf := (if_pos h_18).symm.trans hf
    refine lv_tableIn (off := 69) (tgt := 70) hx hb dd_MO_step_1 (by rw [h_18]; decide) (by rw [h_18]; decide) (by rw [h_18]; decide) (by decide) ?_
    refine lv_iload_n hx hb dd_MO_step_70 rfl (lv_at hl 1 rfl) ?_
    refine lv_bipush (v := 50) hx hb dd_MO_step_71 (by decide) ?_
    refine lv_icmp_le (tgt := 84) hx hb dd_MO_step_73 (by decide) (fun h_19 => ?_) (fun h_19 => ?_)
    · have hf := (if_pos h_19).symm.trans hf
      refine lv_iload_n hx hb dd_MO_step_84 rfl (lv_at hl 1 rfl) ?_
      exact rrI C0 hP hS dd_MO_step_85 hf
    · have hf := (if_neg h_19).symm.trans hf
      refine lv_iload_n hx hb dd_MO_step_76 rfl (lv_at hl 1 rfl) ?_
      refine lv_iconst (v := 3) hx hb dd_MO_step_77 (by decide) ?_
      obtain ⟨r_20, x_21, c_22, hf⟩ := of_bnd hf
      refine cl_MO_173 C0 hap  c_22 hP hS ⟨Nat.le_of_ble_eq_true rfl, Nat.le_of_ble_eq_true rfl⟩ hl.1 (Nat.le_of_ble_eq_true rfl) dd_MO_step_78 ⟨Nat.le_refl _, Nat.le_refl _⟩ (fun H locs hP hS => ?_)
      refine lv_goto (tgt := 85) hx hb dd_MO_step_81 (by decide) ?_
      exact rrI C0 hP hS dd_MO_step_85 hf
  have hf := (if_neg h_18).symm.trans hf
  refine lv_tableOut (tgt := 86) hx hb dd_MO_step_1 (by have z0 := lv_neT h_1 (a := 0) (by decide); have z1 := lv_neT h_5 (a := 1) (by decide); have z2 := lv_neT h_9 (a := 2) (by decide); have z3 := lv_neT h_13 (a := 3) (by decide); have z4 := lv_neT h_18 (a := 4) (by decide); omega) (by decide) ?_
  refine lv_iload_n hx hb dd_MO_step_86 rfl (lv_at hl 1 rfl) ?_
  refine lv_iload_n hx hb dd_MO_step_87 rfl (lv_at hl 2 rfl) ?_
  obtain ⟨r_23, x_24, c_25, hf⟩ := of_bnd hf
  refine cl_MO_176 C0 hap  c_25 hP hS ⟨Nat.le_of_ble_eq_true rfl, Nat.le_of_ble_eq_true rfl⟩ hl.1 (Nat.le_of_ble_eq_true rfl) dd_MO_step_88 ⟨Nat.le_refl _, Nat.le_refl _⟩ (fun H locs hP hS => ?_)
  refine lv_iload_n hx hb dd_MO_step_91 rfl (lv_at hl 2 rfl) ?_
  obtain ⟨r_26, x_27, c_28, hf⟩ := of_bnd hf
  refine cl_MO_176 C0 hap  c_28 hP hS ⟨Nat.le_of_ble_eq_true rfl, Nat.le_of_ble_eq_true rfl⟩ hl.1 (Nat.le_of_ble_eq_true rfl) dd_MO_step_92 ⟨Nat.le_refl _, Nat.le_refl _⟩ (fun H locs hP hS => ?_)
  exact rrI C0 hP hS dd_MO_step_95 hf
theorem cc_MO_step {l : Launch} {E : Ev} {A : Nat → Prop} {ad : Nat → Nat} (hap : Ap ad ixM A) {x x' : St} {v0 : Int32} {v1 : Int32} {v2 : Int32} {r : Int32}  (hf : ff_MO_step x v0 v1 v2 = some (r, x')) : Met l yy_MO_step (Cond.code yy_MO_step bb_MO_step 3 (some .int) :: gtb) rm_MO_step (va_Pc [.int v0, .int v1, .int v2] (PB E A ad ixM x)) (QX E ad ixM A (some (.int r)) x') 0 0 A := by
  exact enter (by decide) (Nat.le_of_ble_eq_true rfl) (fun p e s m below meth c ls C0 hP hS hl => ww_MO_step C0 hap  hf hP hS hl)
abbrev rm_MO_more : Room := { frames := 0, cells := 0, slots := 0, locals := 0 }
theorem dd_MO_more_0 : decode bb_MO_more 0 = .ok (.iload_n 0, 1) := by decide +kernel
theorem dd_MO_more_1 : decode bb_MO_more 1 = .ok (.iconst 5, 1) := by decide +kernel
theorem dd_MO_more_2 : decode bb_MO_more 2 = .ok (.iadd, 1) := by decide +kernel
theorem dd_MO_more_3 : decode bb_MO_more 3 = .ok (.bipush 99, 2) := by decide +kernel
theorem dd_MO_more_5 : decode bb_MO_more 5 = .ok (.if_icmp .le 8, 3) := by decide +kernel
theorem dd_MO_more_8 : decode bb_MO_more 8 = .ok (.bipush 99, 2) := by decide +kernel
theorem dd_MO_more_10 : decode bb_MO_more 10 = .ok (.goto 6, 3) := by decide +kernel
theorem dd_MO_more_13 : decode bb_MO_more 13 = .ok (.iload_n 0, 1) := by decide +kernel
theorem dd_MO_more_14 : decode bb_MO_more 14 = .ok (.iconst 5, 1) := by decide +kernel
theorem dd_MO_more_15 : decode bb_MO_more 15 = .ok (.iadd, 1) := by decide +kernel
theorem dd_MO_more_16 : decode bb_MO_more 16 = .ok (.ireturn, 1) := by decide +kernel
def ff_MO_more  (x : St) (v0 : Int32) : Option (Int32 × St) := (if (v0 + 5) ≤ 99 then some (v0 + 5, x) else some (99, x))
set_option maxHeartbeats 4000000 in
set_option maxRecDepth 100000 in
theorem ww_MO_more {p : Program} {l : Launch} {e : Env} {s : State} {m : MethodId} {args : Array Value} {below : List Frame} {meth : Method} {c : Code} {E : Ev} {A : Nat → Prop} {ad : Nat → Nat} {r : Int32} {x' : St} (C0 : Cx E A RMO bb_MO_more 1 (some .int) p s m args meth c) (hap : Ap ad ixM A)  {x : St} {v0 : Int32}  (hf : ff_MO_more x v0 = some (r, x')) {H : Heap} {locs : List Loc} {ls : Array Slot} (hP : Wd E ad ixM x H) (hS : va_S A s.heap H locs) (hl : lv_has ls 1 [(0, .int v0)]) : W p l e rm_MO_more s m args below meth c H locs 0 0 (MQ below (QX E ad ixM A (some (.int r)) x') args s 0 0 A) (F0 m 0 ls []) := by
  obtain ⟨hx, hb, hml, hr, hown, hts, hlk, hK⟩ := id C0
  have hf : (if (v0 + 5) ≤ 99 then some (v0 + 5, x) else some (99, x)) = some (r, x') := hf
  refine lv_iload_n hx hb dd_MO_more_0 rfl (lv_at hl 0 rfl) ?_
  refine lv_iconst (v := 5) hx hb dd_MO_more_1 (by decide) ?_
  refine lv_iadd hx hb dd_MO_more_2 ?_
  refine lv_bipush (v := 99) hx hb dd_MO_more_3 (by decide) ?_
  refine lv_icmp_le (tgt := 13) hx hb dd_MO_more_5 (by decide) (fun h_1 => ?_) (fun h_1 => ?_)
  · have hf := (if_pos h_1).symm.trans hf
    refine lv_iload_n hx hb dd_MO_more_13 rfl (lv_at hl 0 rfl) ?_
    refine lv_iconst (v := 5) hx hb dd_MO_more_14 (by decide) ?_
    refine lv_iadd hx hb dd_MO_more_15 ?_
    exact rrI C0 hP hS dd_MO_more_16 hf
  · have hf := (if_neg h_1).symm.trans hf
    refine lv_bipush (v := 99) hx hb dd_MO_more_8 (by decide) ?_
    refine lv_goto (tgt := 16) hx hb dd_MO_more_10 (by decide) ?_
    exact rrI C0 hP hS dd_MO_more_16 hf
theorem cc_MO_more {l : Launch} {E : Ev} {A : Nat → Prop} {ad : Nat → Nat} (hap : Ap ad ixM A) {x x' : St} {v0 : Int32} {r : Int32}  (hf : ff_MO_more x v0 = some (r, x')) : Met l yy_MO_more (Cond.code yy_MO_more bb_MO_more 1 (some .int) :: gtb) rm_MO_more (va_Pc [.int v0] (PB E A ad ixM x)) (QX E ad ixM A (some (.int r)) x') 0 0 A := by
  exact enter (by decide) (Nat.le_of_ble_eq_true rfl) (fun p e s m below meth c ls C0 hP hS hl => ww_MO_more C0 hap  hf hP hS hl)
theorem cl_MO_179 {p : Program} {l : Launch} {e : Env} {R : Room} {s : State} {m : MethodId} {args : Array Value} {below : List Frame} {meth : Method} {c : Code} {H : Heap} {locs : List Loc} {cells slots : Nat} {Q : State → Prop} {cc : ByteArray} {pc : Nat} {ls : Array Slot} {rest : List Value} {E : Ev} {A : Nat → Prop} {ad : Nat → Nat} {nL : Nat} {rt : Option FieldType} (C0 : Cx E A RMO cc nL rt p s m args meth c) (hap : Ap ad ixM A) {x x' : St} {v0 : Int32} {v1 : Int32} {v2 : Int32} {r : Int32}  (hc : ff_MO_step x v0 v1 v2 = some (r, x')) (hP : Wd E ad ixM x H) (hS : va_S A s.heap H locs) (hR : rm_MO_step.frames + 1 ≤ R.frames ∧ 8 + (3 + 11) + rm_MO_step.locals ≤ R.locals) (hls : ls.size = nL) (hroom : (rest.map fun v => v.category).sum ≤ 8) (hdg : decode cc pc = .ok (.invokestatic 179, 3)) (hf : cells ≤ R.cells ∧ slots ≤ R.slots) (kk : ∀ H1 locs1, Wd E ad ixM x' H1 → va_S A s.heap H1 locs1 → W p l e R s m args below meth c H1 locs1 cells slots Q (F0 m (pc + 3) ls (.int r :: rest))) : W p l e R s m args below meth c H locs cells slots Q (F0 m pc ls (.int v2 :: .int v1 :: .int v0 :: rest)) :=
  rcS (n := 3) C0 (cc_MO_step hap  hc) hP hS gw_code_MO_step gw_m_MO_179 gw_static_MO_step gw_ini_MO rfl rfl (by decide +kernel) rfl hR hls rfl hroom hdg hf (fun H1 locs1 a _ _ b => kk H1 locs1 a b)
theorem cl_MO_183 {p : Program} {l : Launch} {e : Env} {R : Room} {s : State} {m : MethodId} {args : Array Value} {below : List Frame} {meth : Method} {c : Code} {H : Heap} {locs : List Loc} {cells slots : Nat} {Q : State → Prop} {cc : ByteArray} {pc : Nat} {ls : Array Slot} {rest : List Value} {E : Ev} {A : Nat → Prop} {ad : Nat → Nat} {nL : Nat} {rt : Option FieldType} (C0 : Cx E A RMO cc nL rt p s m args meth c) (hap : Ap ad ixM A) {x x' : St} {v0 : Int32} {r : Int32}  (hc : ff_MO_more x v0 = some (r, x')) (hP : Wd E ad ixM x H) (hS : va_S A s.heap H locs) (hR : rm_MO_more.frames + 1 ≤ R.frames ∧ 8 + (1 + 11) + rm_MO_more.locals ≤ R.locals) (hls : ls.size = nL) (hroom : (rest.map fun v => v.category).sum ≤ 8) (hdg : decode cc pc = .ok (.invokestatic 183, 3)) (hf : cells ≤ R.cells ∧ slots ≤ R.slots) (kk : ∀ H1 locs1, Wd E ad ixM x' H1 → va_S A s.heap H1 locs1 → W p l e R s m args below meth c H1 locs1 cells slots Q (F0 m (pc + 3) ls (.int r :: rest))) : W p l e R s m args below meth c H locs cells slots Q (F0 m pc ls (.int v0 :: rest)) :=
  rcS (n := 1) C0 (cc_MO_more hap  hc) hP hS gw_code_MO_more gw_m_MO_183 gw_static_MO_more gw_ini_MO rfl rfl (by decide +kernel) rfl hR hls rfl hroom hdg hf (fun H1 locs1 a _ _ b => kk H1 locs1 a b)
abbrev rm_MO_onDay : Room := { frames := 3, cells := 0, slots := 0, locals := 64 }
theorem dd_MO_onDay_0 : decode bb_MO_onDay 0 = .ok (.aload_n 0, 1) := by decide +kernel
theorem dd_MO_onDay_1 : decode bb_MO_onDay 1 = .ok (.bipush 7, 2) := by decide +kernel
theorem dd_MO_onDay_3 : decode bb_MO_onDay 3 = .ok (.iconst 3, 1) := by decide +kernel
theorem dd_MO_onDay_4 : decode bb_MO_onDay 4 = .ok (.iload_n 1, 1) := by decide +kernel
theorem dd_MO_onDay_5 : decode bb_MO_onDay 5 = .ok (.imul, 1) := by decide +kernel
theorem dd_MO_onDay_6 : decode bb_MO_onDay 6 = .ok (.iadd, 1) := by decide +kernel
theorem dd_MO_onDay_7 : decode bb_MO_onDay 7 = .ok (.invokevirtual 60, 3) := by decide +kernel
theorem dd_MO_onDay_10 : decode bb_MO_onDay 10 = .ok (.iload_n 2, 1) := by decide +kernel
theorem dd_MO_onDay_11 : decode bb_MO_onDay 11 = .ok (.iload_n 3, 1) := by decide +kernel
theorem dd_MO_onDay_12 : decode bb_MO_onDay 12 = .ok (.invokestatic 179, 3) := by decide +kernel
theorem dd_MO_onDay_15 : decode bb_MO_onDay 15 = .ok (.istore 4, 2) := by decide +kernel
theorem dd_MO_onDay_17 : decode bb_MO_onDay 17 = .ok (.iconst 0, 1) := by decide +kernel
theorem dd_MO_onDay_18 : decode bb_MO_onDay 18 = .ok (.istore 5, 2) := by decide +kernel
theorem dd_MO_onDay_20 : decode bb_MO_onDay 20 = .ok (.iload 5, 2) := by decide +kernel
theorem dd_MO_onDay_22 : decode bb_MO_onDay 22 = .ok (.aload_n 0, 1) := by decide +kernel
theorem dd_MO_onDay_23 : decode bb_MO_onDay 23 = .ok (.iconst 3, 1) := by decide +kernel
theorem dd_MO_onDay_24 : decode bb_MO_onDay 24 = .ok (.invokevirtual 60, 3) := by decide +kernel
theorem dd_MO_onDay_27 : decode bb_MO_onDay 27 = .ok (.if_icmp .ge 74, 3) := by decide +kernel
theorem dd_MO_onDay_30 : decode bb_MO_onDay 30 = .ok (.bipush 57, 2) := by decide +kernel
theorem dd_MO_onDay_32 : decode bb_MO_onDay 32 = .ok (.iconst 3, 1) := by decide +kernel
theorem dd_MO_onDay_33 : decode bb_MO_onDay 33 = .ok (.iload 5, 2) := by decide +kernel
theorem dd_MO_onDay_35 : decode bb_MO_onDay 35 = .ok (.imul, 1) := by decide +kernel
theorem dd_MO_onDay_36 : decode bb_MO_onDay 36 = .ok (.iadd, 1) := by decide +kernel
theorem dd_MO_onDay_37 : decode bb_MO_onDay 37 = .ok (.istore 6, 2) := by decide +kernel
theorem dd_MO_onDay_39 : decode bb_MO_onDay 39 = .ok (.iload 5, 2) := by decide +kernel
theorem dd_MO_onDay_41 : decode bb_MO_onDay 41 = .ok (.aload_n 0, 1) := by decide +kernel
theorem dd_MO_onDay_42 : decode bb_MO_onDay 42 = .ok (.getfield 24, 3) := by decide +kernel
theorem dd_MO_onDay_45 : decode bb_MO_onDay 45 = .ok (.if_icmp .eq 50, 3) := by decide +kernel
theorem dd_MO_onDay_48 : decode bb_MO_onDay 48 = .ok (.aload_n 0, 1) := by decide +kernel
theorem dd_MO_onDay_49 : decode bb_MO_onDay 49 = .ok (.iload 6, 2) := by decide +kernel
theorem dd_MO_onDay_51 : decode bb_MO_onDay 51 = .ok (.iconst 1, 1) := by decide +kernel
theorem dd_MO_onDay_52 : decode bb_MO_onDay 52 = .ok (.iadd, 1) := by decide +kernel
theorem dd_MO_onDay_53 : decode bb_MO_onDay 53 = .ok (.invokevirtual 60, 3) := by decide +kernel
theorem dd_MO_onDay_56 : decode bb_MO_onDay 56 = .ok (.iload_n 3, 1) := by decide +kernel
theorem dd_MO_onDay_57 : decode bb_MO_onDay 57 = .ok (.if_icmp .ne 38, 3) := by decide +kernel
theorem dd_MO_onDay_60 : decode bb_MO_onDay 60 = .ok (.aload_n 0, 1) := by decide +kernel
theorem dd_MO_onDay_61 : decode bb_MO_onDay 61 = .ok (.iload 6, 2) := by decide +kernel
theorem dd_MO_onDay_63 : decode bb_MO_onDay 63 = .ok (.iconst 2, 1) := by decide +kernel
theorem dd_MO_onDay_64 : decode bb_MO_onDay 64 = .ok (.iadd, 1) := by decide +kernel
theorem dd_MO_onDay_65 : decode bb_MO_onDay 65 = .ok (.invokevirtual 60, 3) := by decide +kernel
theorem dd_MO_onDay_68 : decode bb_MO_onDay 68 = .ok (.iload_n 1, 1) := by decide +kernel
theorem dd_MO_onDay_69 : decode bb_MO_onDay 69 = .ok (.if_icmp .ne 26, 3) := by decide +kernel
theorem dd_MO_onDay_72 : decode bb_MO_onDay 72 = .ok (.aload_n 0, 1) := by decide +kernel
theorem dd_MO_onDay_73 : decode bb_MO_onDay 73 = .ok (.iload 6, 2) := by decide +kernel
theorem dd_MO_onDay_75 : decode bb_MO_onDay 75 = .ok (.invokevirtual 60, 3) := by decide +kernel
theorem dd_MO_onDay_78 : decode bb_MO_onDay 78 = .ok (.ifCond .ne 10, 3) := by decide +kernel
theorem dd_MO_onDay_81 : decode bb_MO_onDay 81 = .ok (.iload 4, 2) := by decide +kernel
theorem dd_MO_onDay_83 : decode bb_MO_onDay 83 = .ok (.iconst 2, 1) := by decide +kernel
theorem dd_MO_onDay_84 : decode bb_MO_onDay 84 = .ok (.idiv, 1) := by decide +kernel
theorem dd_MO_onDay_85 : decode bb_MO_onDay 85 = .ok (.goto 8, 3) := by decide +kernel
theorem dd_MO_onDay_88 : decode bb_MO_onDay 88 = .ok (.iload 4, 2) := by decide +kernel
theorem dd_MO_onDay_90 : decode bb_MO_onDay 90 = .ok (.invokestatic 183, 3) := by decide +kernel
theorem dd_MO_onDay_93 : decode bb_MO_onDay 93 = .ok (.istore 4, 2) := by decide +kernel
theorem dd_MO_onDay_95 : decode bb_MO_onDay 95 = .ok (.iinc 5 1, 3) := by decide +kernel
theorem dd_MO_onDay_98 : decode bb_MO_onDay 98 = .ok (.goto (-78), 3) := by decide +kernel
theorem dd_MO_onDay_101 : decode bb_MO_onDay 101 = .ok (.iload 4, 2) := by decide +kernel
theorem dd_MO_onDay_103 : decode bb_MO_onDay 103 = .ok (.ireturn, 1) := by decide +kernel
def ff_MO_onDay_20  : Nat → St → Nat → Int32 → Int32 → Int32 → Int32 → Option (Int32 × St)
  | 0, _, _, _, _, _, _ => none
  | n + 1, x, v0, v1, v3, v4, v5 => bnd (ff_MO_get x v0 3) (fun r_7 x_8 => (if r_7 ≤ v5 then some (v4, x_8) else (if v5 = (gi x_8 v0 13) then ff_MO_onDay_20 n x_8 v0 v1 v3 v4 (v5 + 1) else bnd (ff_MO_get x_8 v0 ((57 + (3 * v5)) + 1)) (fun r_12 x_13 => (if r_12 = v3 then bnd (ff_MO_get x_13 v0 ((57 + (3 * v5)) + 2)) (fun r_16 x_17 => (if r_16 = v1 then bnd (ff_MO_get x_17 v0 (57 + (3 * v5))) (fun r_20 x_21 => (if r_20 = 0 then ff_MO_onDay_20 n x_21 v0 v1 v3 (v4 / 2) (v5 + 1) else bnd (ff_MO_more x_21 v4) (fun r_24 x_25 => ff_MO_onDay_20 n x_25 v0 v1 v3 r_24 (v5 + 1)))) else ff_MO_onDay_20 n x_17 v0 v1 v3 v4 (v5 + 1))) else ff_MO_onDay_20 n x_13 v0 v1 v3 v4 (v5 + 1))))))
def ff_MO_onDay  (x : St) (v0 : Nat) (v1 : Int32) (v2 : Int32) (v3 : Int32) : Option (Int32 × St) := bnd (ff_MO_get x v0 (7 + (3 * v1))) (fun r_1 x_2 => bnd (ff_MO_step x_2 r_1 v2 v3) (fun r_4 x_5 => ff_MO_onDay_20 FU x_5 v0 v1 v3 r_4 0))
set_option maxHeartbeats 4000000 in
set_option maxRecDepth 100000 in
theorem ww_MO_onDay_20 {p : Program} {l : Launch} {e : Env} {s : State} {m : MethodId} {args : Array Value} {below : List Frame} {meth : Method} {c : Code} {E : Ev} {A : Nat → Prop} {ad : Nat → Nat} {r : Int32} {x' : St} (C0 : Cx E A RMO bb_MO_onDay 7 (some .int) p s m args meth c) (hap : Ap ad ixM A)  : ∀ (n : Nat), ∀ (x : St) (v0 : Nat) (v1 : Int32) (v3 : Int32) (v4 : Int32) (v5 : Int32), (isO ixM v0 6) → ff_MO_onDay_20 n x v0 v1 v3 v4 v5 = some (r, x') → ∀ (H : Heap) (locs : List Loc) (ls : Array Slot), Wd E ad ixM x H → va_S A s.heap H locs → lv_has ls 7 [(0, .ref (ad v0)), (1, .int v1), (3, .int v3), (4, .int v4), (5, .int v5)] → W p l e rm_MO_onDay s m args below meth c H locs 0 0 (MQ below (QX E ad ixM A (some (.int r)) x') args s 0 0 A) (F0 m 20 ls []) := by
  obtain ⟨hx, hb, hml, hr, hown, hts, hlk, hK⟩ := id C0
  intro n
  induction n with
  | zero => intro x v0 v1 v3 v4 v5 ho_v0 hf; exact of_no hf
  | succ n ih =>
    intro x v0 v1 v3 v4 v5 ho_v0 hf H locs ls hP hS hl
    have hf : bnd (ff_MO_get x v0 3) (fun r_7 x_8 => (if r_7 ≤ v5 then some (v4, x_8) else (if v5 = (gi x_8 v0 13) then ff_MO_onDay_20 n x_8 v0 v1 v3 v4 (v5 + 1) else bnd (ff_MO_get x_8 v0 ((57 + (3 * v5)) + 1)) (fun r_12 x_13 => (if r_12 = v3 then bnd (ff_MO_get x_13 v0 ((57 + (3 * v5)) + 2)) (fun r_16 x_17 => (if r_16 = v1 then bnd (ff_MO_get x_17 v0 (57 + (3 * v5))) (fun r_20 x_21 => (if r_20 = 0 then ff_MO_onDay_20 n x_21 v0 v1 v3 (v4 / 2) (v5 + 1) else bnd (ff_MO_more x_21 v4) (fun r_24 x_25 => ff_MO_onDay_20 n x_25 v0 v1 v3 r_24 (v5 + 1)))) else ff_MO_onDay_20 n x_17 v0 v1 v3 v4 (v5 + 1))) else ff_MO_onDay_20 n x_13 v0 v1 v3 v4 (v5 + 1)))))) = some (r, x') := hf
    refine lv_iload hx hb dd_MO_onDay_20 (lv_at hl 4 rfl) ?_
    refine lv_aload_n hx hb dd_MO_onDay_22 rfl (lv_at hl 0 rfl) ?_
    refine lv_iconst (v := 3) hx hb dd_MO_onDay_23 (by decide) ?_
    obtain ⟨r_7, x_8, c_9, hf⟩ := of_bnd hf
    refine cl_MO_60 C0 hap ho_v0 c_9 hP hS ⟨Nat.le_of_ble_eq_true rfl, Nat.le_of_ble_eq_true rfl⟩ hl.1 (Nat.le_of_ble_eq_true rfl) dd_MO_onDay_24 ⟨Nat.le_refl _, Nat.le_refl _⟩ (fun H locs hP hS => ?_)
    refine lv_icmp_ge (tgt := 101) hx hb dd_MO_onDay_27 (by decide) (fun h_10 => ?_) (fun h_10 => ?_)
    · have hf := (if_pos h_10).symm.trans hf
      refine lv_iload hx hb dd_MO_onDay_101 (lv_at hl 3 rfl) ?_
      exact rrI C0 hP hS dd_MO_onDay_103 hf
    · have hf := (if_neg h_10).symm.trans hf
      refine lv_bipush (v := 57) hx hb dd_MO_onDay_30 (by decide) ?_
      refine lv_iconst (v := 3) hx hb dd_MO_onDay_32 (by decide) ?_
      refine lv_iload hx hb dd_MO_onDay_33 (lv_at hl 4 rfl) ?_
      refine lv_imul hx hb dd_MO_onDay_35 ?_
      refine lv_iadd hx hb dd_MO_onDay_36 ?_
      refine lv_istore (lv' := [(6, .int (57 + (3 * v5))), (0, .ref (ad v0)), (1, .int v1), (3, .int v3), (4, .int v4), (5, .int v5)]) hx hb dd_MO_onDay_37 hl (by decide) rfl (fun ls hl => ?_)
      refine lv_iload hx hb dd_MO_onDay_39 (lv_at hl 5 rfl) ?_
      refine lv_aload_n hx hb dd_MO_onDay_41 rfl (lv_at hl 1 rfl) ?_
      refine gf_MO_24 C0 hP ho_v0 dd_MO_onDay_42 ?_
      refine lv_icmp_eq (tgt := 95) hx hb dd_MO_onDay_45 (by decide) (fun h_11 => ?_) (fun h_11 => ?_)
      · have hf := (if_pos h_11).symm.trans hf
        refine lv_iinc (v := v5 + 1) (lv' := [(5, .int (v5 + 1)), (6, .int (57 + (3 * v5))), (0, .ref (ad v0)), (1, .int v1), (3, .int v3), (4, .int v4)]) hx hb dd_MO_onDay_95 hl (k := 5) rfl rfl (by decide) rfl (fun ls hl => ?_)
        refine lv_goto (tgt := 20) hx hb dd_MO_onDay_98 (by decide) ?_
        exact ih x_8 v0 v1 v3 v4 (v5 + 1) ho_v0 hf _ _ _ hP hS (lv_sub hl [2, 3, 4, 5, 0] rfl)
      · have hf := (if_neg h_11).symm.trans hf
        refine lv_aload_n hx hb dd_MO_onDay_48 rfl (lv_at hl 1 rfl) ?_
        refine lv_iload hx hb dd_MO_onDay_49 (lv_at hl 0 rfl) ?_
        refine lv_iconst (v := 1) hx hb dd_MO_onDay_51 (by decide) ?_
        refine lv_iadd hx hb dd_MO_onDay_52 ?_
        obtain ⟨r_12, x_13, c_14, hf⟩ := of_bnd hf
        refine cl_MO_60 C0 hap ho_v0 c_14 hP hS ⟨Nat.le_of_ble_eq_true rfl, Nat.le_of_ble_eq_true rfl⟩ hl.1 (Nat.le_of_ble_eq_true rfl) dd_MO_onDay_53 ⟨Nat.le_refl _, Nat.le_refl _⟩ (fun H locs hP hS => ?_)
        refine lv_iload_n hx hb dd_MO_onDay_56 rfl (lv_at hl 3 rfl) ?_
        refine lv_icmp_ne (tgt := 95) hx hb dd_MO_onDay_57 (by decide) (fun h_15 => ?_) (fun h_15 => ?_)
        · have hf := (if_neg h_15).symm.trans hf
          refine lv_iinc (v := v5 + 1) (lv' := [(5, .int (v5 + 1)), (6, .int (57 + (3 * v5))), (0, .ref (ad v0)), (1, .int v1), (3, .int v3), (4, .int v4)]) hx hb dd_MO_onDay_95 hl (k := 5) rfl rfl (by decide) rfl (fun ls hl => ?_)
          refine lv_goto (tgt := 20) hx hb dd_MO_onDay_98 (by decide) ?_
          exact ih x_13 v0 v1 v3 v4 (v5 + 1) ho_v0 hf _ _ _ hP hS (lv_sub hl [2, 3, 4, 5, 0] rfl)
        · have hf := (if_pos h_15).symm.trans hf
          refine lv_aload_n hx hb dd_MO_onDay_60 rfl (lv_at hl 1 rfl) ?_
          refine lv_iload hx hb dd_MO_onDay_61 (lv_at hl 0 rfl) ?_
          refine lv_iconst (v := 2) hx hb dd_MO_onDay_63 (by decide) ?_
          refine lv_iadd hx hb dd_MO_onDay_64 ?_
          obtain ⟨r_16, x_17, c_18, hf⟩ := of_bnd hf
          refine cl_MO_60 C0 hap ho_v0 c_18 hP hS ⟨Nat.le_of_ble_eq_true rfl, Nat.le_of_ble_eq_true rfl⟩ hl.1 (Nat.le_of_ble_eq_true rfl) dd_MO_onDay_65 ⟨Nat.le_refl _, Nat.le_refl _⟩ (fun H locs hP hS => ?_)
          refine lv_iload_n hx hb dd_MO_onDay_68 rfl (lv_at hl 2 rfl) ?_
          refine lv_icmp_ne (tgt := 95) hx hb dd_MO_onDay_69 (by decide) (fun h_19 => ?_) (fun h_19 => ?_)
          · have hf := (if_neg h_19).symm.trans hf
            refine lv_iinc (v := v5 + 1) (lv' := [(5, .int (v5 + 1)), (6, .int (57 + (3 * v5))), (0, .ref (ad v0)), (1, .int v1), (3, .int v3), (4, .int v4)]) hx hb dd_MO_onDay_95 hl (k := 5) rfl rfl (by decide) rfl (fun ls hl => ?_)
            refine lv_goto (tgt := 20) hx hb dd_MO_onDay_98 (by decide) ?_
            exact ih x_17 v0 v1 v3 v4 (v5 + 1) ho_v0 hf _ _ _ hP hS (lv_sub hl [2, 3, 4, 5, 0] rfl)
          · have hf := (if_pos h_19).symm.trans hf
            refine lv_aload_n hx hb dd_MO_onDay_72 rfl (lv_at hl 1 rfl) ?_
            refine lv_iload hx hb dd_MO_onDay_73 (lv_at hl 0 rfl) ?_
            obtain ⟨r_20, x_21, c_22, hf⟩ := of_bnd hf
            refine cl_MO_60 C0 hap ho_v0 c_22 hP hS ⟨Nat.le_of_ble_eq_true rfl, Nat.le_of_ble_eq_true rfl⟩ hl.1 (Nat.le_of_ble_eq_true rfl) dd_MO_onDay_75 ⟨Nat.le_refl _, Nat.le_refl _⟩ (fun H locs hP hS => ?_)
            refine lv_if_ne (tgt := 88) hx hb dd_MO_onDay_78 (by decide) (fun h_23 => ?_) (fun h_23 => ?_)
            · have hf := (if_neg h_23).symm.trans hf
              refine lv_iload hx hb dd_MO_onDay_88 (lv_at hl 4 rfl) ?_
              obtain ⟨r_24, x_25, c_26, hf⟩ := of_bnd hf
              refine cl_MO_183 C0 hap  c_26 hP hS ⟨Nat.le_of_ble_eq_true rfl, Nat.le_of_ble_eq_true rfl⟩ hl.1 (Nat.le_of_ble_eq_true rfl) dd_MO_onDay_90 ⟨Nat.le_refl _, Nat.le_refl _⟩ (fun H locs hP hS => ?_)
              refine lv_istore (lv' := [(4, .int r_24), (6, .int (57 + (3 * v5))), (0, .ref (ad v0)), (1, .int v1), (3, .int v3), (5, .int v5)]) hx hb dd_MO_onDay_93 hl (by decide) rfl (fun ls hl => ?_)
              refine lv_iinc (v := v5 + 1) (lv' := [(5, .int (v5 + 1)), (4, .int r_24), (6, .int (57 + (3 * v5))), (0, .ref (ad v0)), (1, .int v1), (3, .int v3)]) hx hb dd_MO_onDay_95 hl (k := 5) rfl rfl (by decide) rfl (fun ls hl => ?_)
              refine lv_goto (tgt := 20) hx hb dd_MO_onDay_98 (by decide) ?_
              exact ih x_25 v0 v1 v3 r_24 (v5 + 1) ho_v0 hf _ _ _ hP hS (lv_sub hl [3, 4, 5, 1, 0] rfl)
            · have hf := (if_pos h_23).symm.trans hf
              refine lv_iload hx hb dd_MO_onDay_81 (lv_at hl 4 rfl) ?_
              refine lv_iconst (v := 2) hx hb dd_MO_onDay_83 (by decide) ?_
              refine lv_idiv hx hb dd_MO_onDay_84 (by decide) ?_
              refine lv_goto (tgt := 93) hx hb dd_MO_onDay_85 (by decide) ?_
              refine lv_istore (lv' := [(4, .int (v4 / 2)), (6, .int (57 + (3 * v5))), (0, .ref (ad v0)), (1, .int v1), (3, .int v3), (5, .int v5)]) hx hb dd_MO_onDay_93 hl (by decide) rfl (fun ls hl => ?_)
              refine lv_iinc (v := v5 + 1) (lv' := [(5, .int (v5 + 1)), (4, .int (v4 / 2)), (6, .int (57 + (3 * v5))), (0, .ref (ad v0)), (1, .int v1), (3, .int v3)]) hx hb dd_MO_onDay_95 hl (k := 5) rfl rfl (by decide) rfl (fun ls hl => ?_)
              refine lv_goto (tgt := 20) hx hb dd_MO_onDay_98 (by decide) ?_
              exact ih x_21 v0 v1 v3 (v4 / 2) (v5 + 1) ho_v0 hf _ _ _ hP hS (lv_sub hl [3, 4, 5, 1, 0] rfl)
set_option maxHeartbeats 4000000 in
set_option maxRecDepth 100000 in
theorem ww_MO_onDay {p : Program} {l : Launch} {e : Env} {s : State} {m : MethodId} {args : Array Value} {below : List Frame} {meth : Method} {c : Code} {E : Ev} {A : Nat → Prop} {ad : Nat → Nat} {r : Int32} {x' : St} (C0 : Cx E A RMO bb_MO_onDay 7 (some .int) p s m args meth c) (hap : Ap ad ixM A)  {x : St} {v0 : Nat} {v1 : Int32} {v2 : Int32} {v3 : Int32} (ho_v0 : isO ixM v0 6) (hf : ff_MO_onDay x v0 v1 v2 v3 = some (r, x')) {H : Heap} {locs : List Loc} {ls : Array Slot} (hP : Wd E ad ixM x H) (hS : va_S A s.heap H locs) (hl : lv_has ls 7 [(0, .ref (ad v0)), (1, .int v1), (2, .int v2), (3, .int v3)]) : W p l e rm_MO_onDay s m args below meth c H locs 0 0 (MQ below (QX E ad ixM A (some (.int r)) x') args s 0 0 A) (F0 m 0 ls []) := by
  obtain ⟨hx, hb, hml, hr, hown, hts, hlk, hK⟩ := id C0
  have hf : bnd (ff_MO_get x v0 (7 + (3 * v1))) (fun r_1 x_2 => bnd (ff_MO_step x_2 r_1 v2 v3) (fun r_4 x_5 => ff_MO_onDay_20 FU x_5 v0 v1 v3 r_4 0)) = some (r, x') := hf
  refine lv_aload_n hx hb dd_MO_onDay_0 rfl (lv_at hl 0 rfl) ?_
  refine lv_bipush (v := 7) hx hb dd_MO_onDay_1 (by decide) ?_
  refine lv_iconst (v := 3) hx hb dd_MO_onDay_3 (by decide) ?_
  refine lv_iload_n hx hb dd_MO_onDay_4 rfl (lv_at hl 1 rfl) ?_
  refine lv_imul hx hb dd_MO_onDay_5 ?_
  refine lv_iadd hx hb dd_MO_onDay_6 ?_
  obtain ⟨r_1, x_2, c_3, hf⟩ := of_bnd hf
  refine cl_MO_60 C0 hap ho_v0 c_3 hP hS ⟨Nat.le_of_ble_eq_true rfl, Nat.le_of_ble_eq_true rfl⟩ hl.1 (Nat.le_of_ble_eq_true rfl) dd_MO_onDay_7 ⟨Nat.le_refl _, Nat.le_refl _⟩ (fun H locs hP hS => ?_)
  refine lv_iload_n hx hb dd_MO_onDay_10 rfl (lv_at hl 2 rfl) ?_
  refine lv_iload_n hx hb dd_MO_onDay_11 rfl (lv_at hl 3 rfl) ?_
  obtain ⟨r_4, x_5, c_6, hf⟩ := of_bnd hf
  refine cl_MO_179 C0 hap  c_6 hP hS ⟨Nat.le_of_ble_eq_true rfl, Nat.le_of_ble_eq_true rfl⟩ hl.1 (Nat.le_of_ble_eq_true rfl) dd_MO_onDay_12 ⟨Nat.le_refl _, Nat.le_refl _⟩ (fun H locs hP hS => ?_)
  refine lv_istore (lv' := [(4, .int r_4), (0, .ref (ad v0)), (1, .int v1), (2, .int v2), (3, .int v3)]) hx hb dd_MO_onDay_15 hl (by decide) rfl (fun ls hl => ?_)
  refine lv_iconst (v := 0) hx hb dd_MO_onDay_17 (by decide) ?_
  refine lv_istore (lv' := [(5, .int 0), (4, .int r_4), (0, .ref (ad v0)), (1, .int v1), (2, .int v2), (3, .int v3)]) hx hb dd_MO_onDay_18 hl (by decide) rfl (fun ls hl => ?_)
  exact ww_MO_onDay_20 C0 hap  FU x_5 v0 v1 v3 r_4 0 ho_v0 hf _ _ _ hP hS (lv_sub hl [2, 3, 5, 1, 0] rfl)
theorem cc_MO_onDay {l : Launch} {E : Ev} {A : Nat → Prop} {ad : Nat → Nat} (hap : Ap ad ixM A) {x x' : St} {v0 : Nat} {v1 : Int32} {v2 : Int32} {v3 : Int32} {r : Int32} (ho_v0 : isO ixM v0 6) (hf : ff_MO_onDay x v0 v1 v2 v3 = some (r, x')) : Met l yy_MO_onDay (Cond.code yy_MO_onDay bb_MO_onDay 7 (some .int) :: gtb) rm_MO_onDay (va_Pc [.ref (ad v0), .int v1, .int v2, .int v3] (PB E A ad ixM x)) (QX E ad ixM A (some (.int r)) x') 0 0 A := by
  exact enter (by decide) (Nat.le_of_ble_eq_true rfl) (fun p e s m below meth c ls C0 hP hS hl => ww_MO_onDay C0 hap ho_v0 hf hP hS hl)
theorem cl_MO_186 {p : Program} {l : Launch} {e : Env} {R : Room} {s : State} {m : MethodId} {args : Array Value} {below : List Frame} {meth : Method} {c : Code} {H : Heap} {locs : List Loc} {cells slots : Nat} {Q : State → Prop} {cc : ByteArray} {pc : Nat} {ls : Array Slot} {rest : List Value} {E : Ev} {A : Nat → Prop} {ad : Nat → Nat} {nL : Nat} {rt : Option FieldType} (C0 : Cx E A RMO cc nL rt p s m args meth c) (hap : Ap ad ixM A) {x x' : St} {v0 : Nat} {v1 : Int32} {v2 : Int32} {v3 : Int32} {r : Int32} (ho_v0 : isO ixM v0 6) (hc : ff_MO_onDay x v0 v1 v2 v3 = some (r, x')) (hP : Wd E ad ixM x H) (hS : va_S A s.heap H locs) (hR : rm_MO_onDay.frames + 1 ≤ R.frames ∧ 8 + (7 + 11) + rm_MO_onDay.locals ≤ R.locals) (hls : ls.size = nL) (hroom : (rest.map fun v => v.category).sum ≤ 8) (hdg : decode cc pc = .ok (.invokevirtual 186, 3)) (hf : cells ≤ R.cells ∧ slots ≤ R.slots) (kk : ∀ H1 locs1, Wd E ad ixM x' H1 → va_S A s.heap H1 locs1 → W p l e R s m args below meth c H1 locs1 cells slots Q (F0 m (pc + 3) ls (.int r :: rest))) : W p l e R s m args below meth c H locs cells slots Q (F0 m pc ls (.int v3 :: .int v2 :: .int v1 :: .ref (ad v0) :: rest)) :=
  rcV (n := 3) C0 (cc_MO_onDay hap ho_v0 hc) hP hS ho_v0 vcl_6 (by decide) gw_code_MO_onDay gw_m_MO_186 gw_inst_MO_onDay gw_sel_MO_onDay gw_ini_MO rfl rfl (by decide +kernel) rfl hR hls rfl hroom hdg hf (fun H1 locs1 a _ _ b => kk H1 locs1 a b)
abbrev rm_MO_findGriefs : Room := { frames := 4, cells := 0, slots := 0, locals := 90 }
theorem dd_MO_findGriefs_0 : decode bb_MO_findGriefs 0 = .ok (.aload_n 0, 1) := by decide +kernel
theorem dd_MO_findGriefs_1 : decode bb_MO_findGriefs 1 = .ok (.iload_n 1, 1) := by decide +kernel
theorem dd_MO_findGriefs_2 : decode bb_MO_findGriefs 2 = .ok (.putfield 24, 3) := by decide +kernel
theorem dd_MO_findGriefs_5 : decode bb_MO_findGriefs 5 = .ok (.iconst 0, 1) := by decide +kernel
theorem dd_MO_findGriefs_6 : decode bb_MO_findGriefs 6 = .ok (.istore_n 2, 1) := by decide +kernel
theorem dd_MO_findGriefs_7 : decode bb_MO_findGriefs 7 = .ok (.iload_n 2, 1) := by decide +kernel
theorem dd_MO_findGriefs_8 : decode bb_MO_findGriefs 8 = .ok (.aload_n 0, 1) := by decide +kernel
theorem dd_MO_findGriefs_9 : decode bb_MO_findGriefs 9 = .ok (.iconst 0, 1) := by decide +kernel
theorem dd_MO_findGriefs_10 : decode bb_MO_findGriefs 10 = .ok (.invokevirtual 60, 3) := by decide +kernel
theorem dd_MO_findGriefs_13 : decode bb_MO_findGriefs 13 = .ok (.if_icmp .ge 74, 3) := by decide +kernel
theorem dd_MO_findGriefs_16 : decode bb_MO_findGriefs 16 = .ok (.aload_n 0, 1) := by decide +kernel
theorem dd_MO_findGriefs_17 : decode bb_MO_findGriefs 17 = .ok (.getfield 28, 3) := by decide +kernel
theorem dd_MO_findGriefs_20 : decode bb_MO_findGriefs 20 = .ok (.bipush 100, 2) := by decide +kernel
theorem dd_MO_findGriefs_22 : decode bb_MO_findGriefs 22 = .ok (.iload_n 2, 1) := by decide +kernel
theorem dd_MO_findGriefs_23 : decode bb_MO_findGriefs 23 = .ok (.imul, 1) := by decide +kernel
theorem dd_MO_findGriefs_24 : decode bb_MO_findGriefs 24 = .ok (.aload_n 0, 1) := by decide +kernel
theorem dd_MO_findGriefs_25 : decode bb_MO_findGriefs 25 = .ok (.bipush 7, 2) := by decide +kernel
theorem dd_MO_findGriefs_27 : decode bb_MO_findGriefs 27 = .ok (.iconst 3, 1) := by decide +kernel
theorem dd_MO_findGriefs_28 : decode bb_MO_findGriefs 28 = .ok (.iload_n 2, 1) := by decide +kernel
theorem dd_MO_findGriefs_29 : decode bb_MO_findGriefs 29 = .ok (.imul, 1) := by decide +kernel
theorem dd_MO_findGriefs_30 : decode bb_MO_findGriefs 30 = .ok (.iadd, 1) := by decide +kernel
theorem dd_MO_findGriefs_31 : decode bb_MO_findGriefs 31 = .ok (.iconst 1, 1) := by decide +kernel
theorem dd_MO_findGriefs_32 : decode bb_MO_findGriefs 32 = .ok (.iadd, 1) := by decide +kernel
theorem dd_MO_findGriefs_33 : decode bb_MO_findGriefs 33 = .ok (.invokevirtual 60, 3) := by decide +kernel
theorem dd_MO_findGriefs_36 : decode bb_MO_findGriefs 36 = .ok (.iastore, 1) := by decide +kernel
theorem dd_MO_findGriefs_37 : decode bb_MO_findGriefs 37 = .ok (.iconst 1, 1) := by decide +kernel
theorem dd_MO_findGriefs_38 : decode bb_MO_findGriefs 38 = .ok (.istore_n 3, 1) := by decide +kernel
theorem dd_MO_findGriefs_39 : decode bb_MO_findGriefs 39 = .ok (.iload_n 3, 1) := by decide +kernel
theorem dd_MO_findGriefs_40 : decode bb_MO_findGriefs 40 = .ok (.bipush 99, 2) := by decide +kernel
theorem dd_MO_findGriefs_42 : decode bb_MO_findGriefs 42 = .ok (.if_icmp .gt 39, 3) := by decide +kernel
theorem dd_MO_findGriefs_45 : decode bb_MO_findGriefs 45 = .ok (.aload_n 0, 1) := by decide +kernel
theorem dd_MO_findGriefs_46 : decode bb_MO_findGriefs 46 = .ok (.getfield 28, 3) := by decide +kernel
theorem dd_MO_findGriefs_49 : decode bb_MO_findGriefs 49 = .ok (.bipush 100, 2) := by decide +kernel
theorem dd_MO_findGriefs_51 : decode bb_MO_findGriefs 51 = .ok (.iload_n 2, 1) := by decide +kernel
theorem dd_MO_findGriefs_52 : decode bb_MO_findGriefs 52 = .ok (.imul, 1) := by decide +kernel
theorem dd_MO_findGriefs_53 : decode bb_MO_findGriefs 53 = .ok (.iload_n 3, 1) := by decide +kernel
theorem dd_MO_findGriefs_54 : decode bb_MO_findGriefs 54 = .ok (.iadd, 1) := by decide +kernel
theorem dd_MO_findGriefs_55 : decode bb_MO_findGriefs 55 = .ok (.aload_n 0, 1) := by decide +kernel
theorem dd_MO_findGriefs_56 : decode bb_MO_findGriefs 56 = .ok (.iload_n 2, 1) := by decide +kernel
theorem dd_MO_findGriefs_57 : decode bb_MO_findGriefs 57 = .ok (.aload_n 0, 1) := by decide +kernel
theorem dd_MO_findGriefs_58 : decode bb_MO_findGriefs 58 = .ok (.getfield 28, 3) := by decide +kernel
theorem dd_MO_findGriefs_61 : decode bb_MO_findGriefs 61 = .ok (.bipush 100, 2) := by decide +kernel
theorem dd_MO_findGriefs_63 : decode bb_MO_findGriefs 63 = .ok (.iload_n 2, 1) := by decide +kernel
theorem dd_MO_findGriefs_64 : decode bb_MO_findGriefs 64 = .ok (.imul, 1) := by decide +kernel
theorem dd_MO_findGriefs_65 : decode bb_MO_findGriefs 65 = .ok (.iload_n 3, 1) := by decide +kernel
theorem dd_MO_findGriefs_66 : decode bb_MO_findGriefs 66 = .ok (.iadd, 1) := by decide +kernel
theorem dd_MO_findGriefs_67 : decode bb_MO_findGriefs 67 = .ok (.iconst 1, 1) := by decide +kernel
theorem dd_MO_findGriefs_68 : decode bb_MO_findGriefs 68 = .ok (.isub, 1) := by decide +kernel
theorem dd_MO_findGriefs_69 : decode bb_MO_findGriefs 69 = .ok (.iaload, 1) := by decide +kernel
theorem dd_MO_findGriefs_70 : decode bb_MO_findGriefs 70 = .ok (.iload_n 3, 1) := by decide +kernel
theorem dd_MO_findGriefs_71 : decode bb_MO_findGriefs 71 = .ok (.invokevirtual 186, 3) := by decide +kernel
theorem dd_MO_findGriefs_74 : decode bb_MO_findGriefs 74 = .ok (.iastore, 1) := by decide +kernel
theorem dd_MO_findGriefs_75 : decode bb_MO_findGriefs 75 = .ok (.iinc 3 1, 3) := by decide +kernel
theorem dd_MO_findGriefs_78 : decode bb_MO_findGriefs 78 = .ok (.goto (-39), 3) := by decide +kernel
theorem dd_MO_findGriefs_81 : decode bb_MO_findGriefs 81 = .ok (.iinc 2 1, 3) := by decide +kernel
theorem dd_MO_findGriefs_84 : decode bb_MO_findGriefs 84 = .ok (.goto (-77), 3) := by decide +kernel
theorem dd_MO_findGriefs_87 : decode bb_MO_findGriefs 87 = .ok (.aload_n 0, 1) := by decide +kernel
theorem dd_MO_findGriefs_88 : decode bb_MO_findGriefs 88 = .ok (.iconst (-1), 1) := by decide +kernel
theorem dd_MO_findGriefs_89 : decode bb_MO_findGriefs 89 = .ok (.putfield 24, 3) := by decide +kernel
theorem dd_MO_findGriefs_92 : decode bb_MO_findGriefs 92 = .ok (.return_, 1) := by decide +kernel
def ff_MO_findGriefs_39 (k_7 : St → Nat → Int32 → Option (Unit × St)) : Nat → St → Nat → Int32 → Int32 → Option (Unit × St)
  | 0, _, _, _, _ => none
  | n + 1, x, v0, v2, v3 => (if 99 < v3 then k_7 x v0 (v2 + 1) else (if ixb (((100 * v2) + v3) - 1) (ln (rf v0 14)) = true then bnd (ff_MO_onDay x v0 v2 (gi x (rf v0 14) (ix (((100 * v2) + v3) - 1))) v3) (fun r_14 x_15 => (if ixb ((100 * v2) + v3) (ln (rf v0 14)) = true then st (si x_15 (rf v0 14) (ix ((100 * v2) + v3)) r_14) (fun x_18 => ff_MO_findGriefs_39 k_7 n x_18 v0 v2 (v3 + 1)) else none)) else none))
def ff_MO_findGriefs_7  : Nat → St → Nat → Int32 → Option (Unit × St)
  | 0, _, _, _ => none
  | n + 1, x, v0, v2 => bnd (ff_MO_get x v0 0) (fun r_2 x_3 => (if r_2 ≤ v2 then st (si x_3 v0 13 (-1)) (fun x_6 => some ((), x_6)) else bnd (ff_MO_get x_3 v0 ((7 + (3 * v2)) + 1)) (fun r_7 x_8 => (if ixb (100 * v2) (ln (rf v0 14)) = true then st (si x_8 (rf v0 14) (ix (100 * v2)) r_7) (fun x_11 => ff_MO_findGriefs_39 (ff_MO_findGriefs_7 n) FU x_11 v0 v2 1) else none))))
def ff_MO_findGriefs  (x : St) (v0 : Nat) (v1 : Int32) : Option (Unit × St) := st (si x v0 13 v1) (fun x_1 => ff_MO_findGriefs_7 FU x_1 v0 0)
set_option maxHeartbeats 4000000 in
set_option maxRecDepth 100000 in
theorem ww_MO_findGriefs_39 {p : Program} {l : Launch} {e : Env} {s : State} {m : MethodId} {args : Array Value} {below : List Frame} {meth : Method} {c : Code} {E : Ev} {A : Nat → Prop} {ad : Nat → Nat} {r : Unit} {x' : St} (C0 : Cx E A RMO bb_MO_findGriefs 4 (none) p s m args meth c) (hap : Ap ad ixM A) {k_7 : St → Nat → Int32 → Option (Unit × St)} (hk_7 : ∀ (x : St) (v0 : Nat) (v2 : Int32), (isO ixM v0 6) → k_7 x v0 v2 = some (r, x') → ∀ (H : Heap) (locs : List Loc) (ls : Array Slot), Wd E ad ixM x H → va_S A s.heap H locs → lv_has ls 4 [(0, .ref (ad v0)), (2, .int v2)] → W p l e rm_MO_findGriefs s m args below meth c H locs 0 0 (MQ below (QX E ad ixM A (none) x') args s 0 0 A) (F0 m 7 ls [])) : ∀ (n : Nat), ∀ (x : St) (v0 : Nat) (v2 : Int32) (v3 : Int32), (isO ixM v0 6) → ff_MO_findGriefs_39 k_7 n x v0 v2 v3 = some (r, x') → ∀ (H : Heap) (locs : List Loc) (ls : Array Slot), Wd E ad ixM x H → va_S A s.heap H locs → lv_has ls 4 [(0, .ref (ad v0)), (2, .int v2), (3, .int v3)] → W p l e rm_MO_findGriefs s m args below meth c H locs 0 0 (MQ below (QX E ad ixM A (none) x') args s 0 0 A) (F0 m 39 ls []) := by
  obtain ⟨hx, hb, hml, hr, hown, hts, hlk, hK⟩ := id C0
  intro n
  induction n with
  | zero => intro x v0 v2 v3 ho_v0 hf; exact of_no hf
  | succ n ih =>
    intro x v0 v2 v3 ho_v0 hf H locs ls hP hS hl
    have hf : (if 99 < v3 then k_7 x v0 (v2 + 1) else (if ixb (((100 * v2) + v3) - 1) (ln (rf v0 14)) = true then bnd (ff_MO_onDay x v0 v2 (gi x (rf v0 14) (ix (((100 * v2) + v3) - 1))) v3) (fun r_14 x_15 => (if ixb ((100 * v2) + v3) (ln (rf v0 14)) = true then st (si x_15 (rf v0 14) (ix ((100 * v2) + v3)) r_14) (fun x_18 => ff_MO_findGriefs_39 k_7 n x_18 v0 v2 (v3 + 1)) else none)) else none)) = some (r, x') := hf
    refine lv_iload_n hx hb dd_MO_findGriefs_39 rfl (lv_at hl 2 rfl) ?_
    refine lv_bipush (v := 99) hx hb dd_MO_findGriefs_40 (by decide) ?_
    refine lv_icmp_gt (tgt := 81) hx hb dd_MO_findGriefs_42 (by decide) (fun h_12 => ?_) (fun h_12 => ?_)
    · have hf := (if_pos h_12).symm.trans hf
      refine lv_iinc (v := v2 + 1) (lv' := [(2, .int (v2 + 1)), (0, .ref (ad v0)), (3, .int v3)]) hx hb dd_MO_findGriefs_81 hl (k := 1) rfl rfl (by decide) rfl (fun ls hl => ?_)
      refine lv_goto (tgt := 7) hx hb dd_MO_findGriefs_84 (by decide) ?_
      exact hk_7 x v0 (v2 + 1) ho_v0 hf _ _ _ hP hS (lv_sub hl [1, 0] rfl)
    · have hf := (if_neg h_12).symm.trans hf
      refine lv_aload_n hx hb dd_MO_findGriefs_45 rfl (lv_at hl 0 rfl) ?_
      refine gf_MO_28 C0 hP ho_v0 dd_MO_findGriefs_46 ?_
      refine lv_bipush (v := 100) hx hb dd_MO_findGriefs_49 (by decide) ?_
      refine lv_iload_n hx hb dd_MO_findGriefs_51 rfl (lv_at hl 1 rfl) ?_
      refine lv_imul hx hb dd_MO_findGriefs_52 ?_
      refine lv_iload_n hx hb dd_MO_findGriefs_53 rfl (lv_at hl 2 rfl) ?_
      refine lv_iadd hx hb dd_MO_findGriefs_54 ?_
      refine lv_aload_n hx hb dd_MO_findGriefs_55 rfl (lv_at hl 0 rfl) ?_
      refine lv_iload_n hx hb dd_MO_findGriefs_56 rfl (lv_at hl 1 rfl) ?_
      refine lv_aload_n hx hb dd_MO_findGriefs_57 rfl (lv_at hl 0 rfl) ?_
      refine gf_MO_28 C0 hP ho_v0 dd_MO_findGriefs_58 ?_
      refine lv_bipush (v := 100) hx hb dd_MO_findGriefs_61 (by decide) ?_
      refine lv_iload_n hx hb dd_MO_findGriefs_63 rfl (lv_at hl 1 rfl) ?_
      refine lv_imul hx hb dd_MO_findGriefs_64 ?_
      refine lv_iload_n hx hb dd_MO_findGriefs_65 rfl (lv_at hl 2 rfl) ?_
      refine lv_iadd hx hb dd_MO_findGriefs_66 ?_
      refine lv_iconst (v := 1) hx hb dd_MO_findGriefs_67 (by decide) ?_
      refine lv_isub hx hb dd_MO_findGriefs_68 ?_
      obtain ⟨h_13, hf⟩ := of_ifb hf
      refine raI C0 hP (tp_6_14 ho_v0) h_13 dd_MO_findGriefs_69 ?_
      refine lv_iload_n hx hb dd_MO_findGriefs_70 rfl (lv_at hl 2 rfl) ?_
      obtain ⟨r_14, x_15, c_16, hf⟩ := of_bnd hf
      refine cl_MO_186 C0 hap ho_v0 c_16 hP hS ⟨Nat.le_of_ble_eq_true rfl, Nat.le_of_ble_eq_true rfl⟩ hl.1 (Nat.le_of_ble_eq_true rfl) dd_MO_findGriefs_71 ⟨Nat.le_refl _, Nat.le_refl _⟩ (fun H locs hP hS => ?_)
      obtain ⟨h_17, hf⟩ := of_ifb hf
      obtain ⟨x_18, hx_18, hf⟩ := of_st hf
      refine sI C0 hap hP hS (tp_6_14 ho_v0) h_17 hx_18 dd_MO_findGriefs_74 (fun H locs hP hS => ?_)
      refine lv_iinc (v := v3 + 1) (lv' := [(3, .int (v3 + 1)), (0, .ref (ad v0)), (2, .int v2)]) hx hb dd_MO_findGriefs_75 hl (k := 2) rfl rfl (by decide) rfl (fun ls hl => ?_)
      refine lv_goto (tgt := 39) hx hb dd_MO_findGriefs_78 (by decide) ?_
      exact ih x_18 v0 v2 (v3 + 1) ho_v0 hf _ _ _ hP hS (lv_sub hl [1, 2, 0] rfl)
set_option maxHeartbeats 4000000 in
set_option maxRecDepth 100000 in
theorem ww_MO_findGriefs_7 {p : Program} {l : Launch} {e : Env} {s : State} {m : MethodId} {args : Array Value} {below : List Frame} {meth : Method} {c : Code} {E : Ev} {A : Nat → Prop} {ad : Nat → Nat} {r : Unit} {x' : St} (C0 : Cx E A RMO bb_MO_findGriefs 4 (none) p s m args meth c) (hap : Ap ad ixM A)  : ∀ (n : Nat), ∀ (x : St) (v0 : Nat) (v2 : Int32), (isO ixM v0 6) → ff_MO_findGriefs_7 n x v0 v2 = some (r, x') → ∀ (H : Heap) (locs : List Loc) (ls : Array Slot), Wd E ad ixM x H → va_S A s.heap H locs → lv_has ls 4 [(0, .ref (ad v0)), (2, .int v2)] → W p l e rm_MO_findGriefs s m args below meth c H locs 0 0 (MQ below (QX E ad ixM A (none) x') args s 0 0 A) (F0 m 7 ls []) := by
  obtain ⟨hx, hb, hml, hr, hown, hts, hlk, hK⟩ := id C0
  intro n
  induction n with
  | zero => intro x v0 v2 ho_v0 hf; exact of_no hf
  | succ n ih =>
    intro x v0 v2 ho_v0 hf H locs ls hP hS hl
    have hf : bnd (ff_MO_get x v0 0) (fun r_2 x_3 => (if r_2 ≤ v2 then st (si x_3 v0 13 (-1)) (fun x_6 => some ((), x_6)) else bnd (ff_MO_get x_3 v0 ((7 + (3 * v2)) + 1)) (fun r_7 x_8 => (if ixb (100 * v2) (ln (rf v0 14)) = true then st (si x_8 (rf v0 14) (ix (100 * v2)) r_7) (fun x_11 => ff_MO_findGriefs_39 (ff_MO_findGriefs_7 n) FU x_11 v0 v2 1) else none)))) = some (r, x') := hf
    refine lv_iload_n hx hb dd_MO_findGriefs_7 rfl (lv_at hl 1 rfl) ?_
    refine lv_aload_n hx hb dd_MO_findGriefs_8 rfl (lv_at hl 0 rfl) ?_
    refine lv_iconst (v := 0) hx hb dd_MO_findGriefs_9 (by decide) ?_
    obtain ⟨r_2, x_3, c_4, hf⟩ := of_bnd hf
    refine cl_MO_60 C0 hap ho_v0 c_4 hP hS ⟨Nat.le_of_ble_eq_true rfl, Nat.le_of_ble_eq_true rfl⟩ hl.1 (Nat.le_of_ble_eq_true rfl) dd_MO_findGriefs_10 ⟨Nat.le_refl _, Nat.le_refl _⟩ (fun H locs hP hS => ?_)
    refine lv_icmp_ge (tgt := 87) hx hb dd_MO_findGriefs_13 (by decide) (fun h_5 => ?_) (fun h_5 => ?_)
    · have hf := (if_pos h_5).symm.trans hf
      refine lv_aload_n hx hb dd_MO_findGriefs_87 rfl (lv_at hl 0 rfl) ?_
      refine lv_iconst (v := -1) hx hb dd_MO_findGriefs_88 (by decide) ?_
      obtain ⟨x_6, hx_6, hf⟩ := of_st hf
      refine pf_MO_24 C0 hap hP hS ho_v0 hx_6 dd_MO_findGriefs_89 (fun H locs hP hS => ?_)
      exact rrV C0 hP hS dd_MO_findGriefs_92 hf
    · have hf := (if_neg h_5).symm.trans hf
      refine lv_aload_n hx hb dd_MO_findGriefs_16 rfl (lv_at hl 0 rfl) ?_
      refine gf_MO_28 C0 hP ho_v0 dd_MO_findGriefs_17 ?_
      refine lv_bipush (v := 100) hx hb dd_MO_findGriefs_20 (by decide) ?_
      refine lv_iload_n hx hb dd_MO_findGriefs_22 rfl (lv_at hl 1 rfl) ?_
      refine lv_imul hx hb dd_MO_findGriefs_23 ?_
      refine lv_aload_n hx hb dd_MO_findGriefs_24 rfl (lv_at hl 0 rfl) ?_
      refine lv_bipush (v := 7) hx hb dd_MO_findGriefs_25 (by decide) ?_
      refine lv_iconst (v := 3) hx hb dd_MO_findGriefs_27 (by decide) ?_
      refine lv_iload_n hx hb dd_MO_findGriefs_28 rfl (lv_at hl 1 rfl) ?_
      refine lv_imul hx hb dd_MO_findGriefs_29 ?_
      refine lv_iadd hx hb dd_MO_findGriefs_30 ?_
      refine lv_iconst (v := 1) hx hb dd_MO_findGriefs_31 (by decide) ?_
      refine lv_iadd hx hb dd_MO_findGriefs_32 ?_
      obtain ⟨r_7, x_8, c_9, hf⟩ := of_bnd hf
      refine cl_MO_60 C0 hap ho_v0 c_9 hP hS ⟨Nat.le_of_ble_eq_true rfl, Nat.le_of_ble_eq_true rfl⟩ hl.1 (Nat.le_of_ble_eq_true rfl) dd_MO_findGriefs_33 ⟨Nat.le_refl _, Nat.le_refl _⟩ (fun H locs hP hS => ?_)
      obtain ⟨h_10, hf⟩ := of_ifb hf
      obtain ⟨x_11, hx_11, hf⟩ := of_st hf
      refine sI C0 hap hP hS (tp_6_14 ho_v0) h_10 hx_11 dd_MO_findGriefs_36 (fun H locs hP hS => ?_)
      refine lv_iconst (v := 1) hx hb dd_MO_findGriefs_37 (by decide) ?_
      refine lv_istore_n (lv' := [(3, .int 1), (0, .ref (ad v0)), (2, .int v2)]) hx hb dd_MO_findGriefs_38 rfl hl (by decide) rfl (fun ls hl => ?_)
      exact ww_MO_findGriefs_39 C0 hap ih FU x_11 v0 v2 1 ho_v0 hf _ _ _ hP hS (lv_sub hl [1, 2, 0] rfl)
set_option maxHeartbeats 4000000 in
set_option maxRecDepth 100000 in
theorem ww_MO_findGriefs {p : Program} {l : Launch} {e : Env} {s : State} {m : MethodId} {args : Array Value} {below : List Frame} {meth : Method} {c : Code} {E : Ev} {A : Nat → Prop} {ad : Nat → Nat} {r : Unit} {x' : St} (C0 : Cx E A RMO bb_MO_findGriefs 4 (none) p s m args meth c) (hap : Ap ad ixM A)  {x : St} {v0 : Nat} {v1 : Int32} (ho_v0 : isO ixM v0 6) (hf : ff_MO_findGriefs x v0 v1 = some (r, x')) {H : Heap} {locs : List Loc} {ls : Array Slot} (hP : Wd E ad ixM x H) (hS : va_S A s.heap H locs) (hl : lv_has ls 4 [(0, .ref (ad v0)), (1, .int v1)]) : W p l e rm_MO_findGriefs s m args below meth c H locs 0 0 (MQ below (QX E ad ixM A (none) x') args s 0 0 A) (F0 m 0 ls []) := by
  obtain ⟨hx, hb, hml, hr, hown, hts, hlk, hK⟩ := id C0
  have hf : st (si x v0 13 v1) (fun x_1 => ff_MO_findGriefs_7 FU x_1 v0 0) = some (r, x') := hf
  refine lv_aload_n hx hb dd_MO_findGriefs_0 rfl (lv_at hl 0 rfl) ?_
  refine lv_iload_n hx hb dd_MO_findGriefs_1 rfl (lv_at hl 1 rfl) ?_
  obtain ⟨x_1, hx_1, hf⟩ := of_st hf
  refine pf_MO_24 C0 hap hP hS ho_v0 hx_1 dd_MO_findGriefs_2 (fun H locs hP hS => ?_)
  refine lv_iconst (v := 0) hx hb dd_MO_findGriefs_5 (by decide) ?_
  refine lv_istore_n (lv' := [(2, .int 0), (0, .ref (ad v0)), (1, .int v1)]) hx hb dd_MO_findGriefs_6 rfl hl (by decide) rfl (fun ls hl => ?_)
  exact ww_MO_findGriefs_7 C0 hap  FU x_1 v0 0 ho_v0 hf _ _ _ hP hS (lv_sub hl [1, 0] rfl)
theorem cc_MO_findGriefs {l : Launch} {E : Ev} {A : Nat → Prop} {ad : Nat → Nat} (hap : Ap ad ixM A) {x x' : St} {v0 : Nat} {v1 : Int32} {r : Unit} (ho_v0 : isO ixM v0 6) (hf : ff_MO_findGriefs x v0 v1 = some (r, x')) : Met l yy_MO_findGriefs (Cond.code yy_MO_findGriefs bb_MO_findGriefs 4 (none) :: gtb) rm_MO_findGriefs (va_Pc [.ref (ad v0), .int v1] (PB E A ad ixM x)) (QX E ad ixM A (none) x') 0 0 A := by
  exact enter (by decide) (Nat.le_of_ble_eq_true rfl) (fun p e s m below meth c ls C0 hP hS hl => ww_MO_findGriefs C0 hap ho_v0 hf hP hS hl)
abbrev rm_MO_strength : Room := { frames := 0, cells := 0, slots := 0, locals := 0 }
theorem dd_MO_strength_0 : decode bb_MO_strength 0 = .ok (.iload_n 2, 1) := by decide +kernel
theorem dd_MO_strength_1 : decode bb_MO_strength 1 = .ok (.iconst (-1), 1) := by decide +kernel
theorem dd_MO_strength_2 : decode bb_MO_strength 2 = .ok (.if_icmp .ne 17, 3) := by decide +kernel
theorem dd_MO_strength_5 : decode bb_MO_strength 5 = .ok (.aload_n 0, 1) := by decide +kernel
theorem dd_MO_strength_6 : decode bb_MO_strength 6 = .ok (.getfield 28, 3) := by decide +kernel
theorem dd_MO_strength_9 : decode bb_MO_strength 9 = .ok (.bipush 100, 2) := by decide +kernel
theorem dd_MO_strength_11 : decode bb_MO_strength 11 = .ok (.iload_n 1, 1) := by decide +kernel
theorem dd_MO_strength_12 : decode bb_MO_strength 12 = .ok (.imul, 1) := by decide +kernel
theorem dd_MO_strength_13 : decode bb_MO_strength 13 = .ok (.iload_n 3, 1) := by decide +kernel
theorem dd_MO_strength_14 : decode bb_MO_strength 14 = .ok (.iadd, 1) := by decide +kernel
theorem dd_MO_strength_15 : decode bb_MO_strength 15 = .ok (.iaload, 1) := by decide +kernel
theorem dd_MO_strength_16 : decode bb_MO_strength 16 = .ok (.goto 28, 3) := by decide +kernel
theorem dd_MO_strength_19 : decode bb_MO_strength 19 = .ok (.aload_n 0, 1) := by decide +kernel
theorem dd_MO_strength_20 : decode bb_MO_strength 20 = .ok (.getfield 28, 3) := by decide +kernel
theorem dd_MO_strength_23 : decode bb_MO_strength 23 = .ok (.bipush 100, 2) := by decide +kernel
theorem dd_MO_strength_25 : decode bb_MO_strength 25 = .ok (.iload_n 1, 1) := by decide +kernel
theorem dd_MO_strength_26 : decode bb_MO_strength 26 = .ok (.imul, 1) := by decide +kernel
theorem dd_MO_strength_27 : decode bb_MO_strength 27 = .ok (.iload_n 3, 1) := by decide +kernel
theorem dd_MO_strength_28 : decode bb_MO_strength 28 = .ok (.iadd, 1) := by decide +kernel
theorem dd_MO_strength_29 : decode bb_MO_strength 29 = .ok (.iaload, 1) := by decide +kernel
theorem dd_MO_strength_30 : decode bb_MO_strength 30 = .ok (.aload_n 0, 1) := by decide +kernel
theorem dd_MO_strength_31 : decode bb_MO_strength 31 = .ok (.getfield 28, 3) := by decide +kernel
theorem dd_MO_strength_34 : decode bb_MO_strength 34 = .ok (.bipush 100, 2) := by decide +kernel
theorem dd_MO_strength_36 : decode bb_MO_strength 36 = .ok (.iload_n 2, 1) := by decide +kernel
theorem dd_MO_strength_37 : decode bb_MO_strength 37 = .ok (.imul, 1) := by decide +kernel
theorem dd_MO_strength_38 : decode bb_MO_strength 38 = .ok (.iload_n 3, 1) := by decide +kernel
theorem dd_MO_strength_39 : decode bb_MO_strength 39 = .ok (.iadd, 1) := by decide +kernel
theorem dd_MO_strength_40 : decode bb_MO_strength 40 = .ok (.iaload, 1) := by decide +kernel
theorem dd_MO_strength_41 : decode bb_MO_strength 41 = .ok (.iadd, 1) := by decide +kernel
theorem dd_MO_strength_42 : decode bb_MO_strength 42 = .ok (.iconst 2, 1) := by decide +kernel
theorem dd_MO_strength_43 : decode bb_MO_strength 43 = .ok (.idiv, 1) := by decide +kernel
theorem dd_MO_strength_44 : decode bb_MO_strength 44 = .ok (.ireturn, 1) := by decide +kernel
def ff_MO_strength  (x : St) (v0 : Nat) (v1 : Int32) (v2 : Int32) (v3 : Int32) : Option (Int32 × St) := (if v2 = (-1) then (if ixb ((100 * v1) + v3) (ln (rf v0 14)) = true then some (gi x (rf v0 14) (ix ((100 * v1) + v3)), x) else none) else (if ixb ((100 * v1) + v3) (ln (rf v0 14)) = true then (if ixb ((100 * v2) + v3) (ln (rf v0 14)) = true then some (((gi x (rf v0 14) (ix ((100 * v1) + v3))) + (gi x (rf v0 14) (ix ((100 * v2) + v3)))) / 2, x) else none) else none))
set_option maxHeartbeats 4000000 in
set_option maxRecDepth 100000 in
theorem ww_MO_strength {p : Program} {l : Launch} {e : Env} {s : State} {m : MethodId} {args : Array Value} {below : List Frame} {meth : Method} {c : Code} {E : Ev} {A : Nat → Prop} {ad : Nat → Nat} {r : Int32} {x' : St} (C0 : Cx E A RMO bb_MO_strength 4 (some .int) p s m args meth c) (hap : Ap ad ixM A)  {x : St} {v0 : Nat} {v1 : Int32} {v2 : Int32} {v3 : Int32} (ho_v0 : isO ixM v0 6) (hf : ff_MO_strength x v0 v1 v2 v3 = some (r, x')) {H : Heap} {locs : List Loc} {ls : Array Slot} (hP : Wd E ad ixM x H) (hS : va_S A s.heap H locs) (hl : lv_has ls 4 [(0, .ref (ad v0)), (1, .int v1), (2, .int v2), (3, .int v3)]) : W p l e rm_MO_strength s m args below meth c H locs 0 0 (MQ below (QX E ad ixM A (some (.int r)) x') args s 0 0 A) (F0 m 0 ls []) := by
  obtain ⟨hx, hb, hml, hr, hown, hts, hlk, hK⟩ := id C0
  have hf : (if v2 = (-1) then (if ixb ((100 * v1) + v3) (ln (rf v0 14)) = true then some (gi x (rf v0 14) (ix ((100 * v1) + v3)), x) else none) else (if ixb ((100 * v1) + v3) (ln (rf v0 14)) = true then (if ixb ((100 * v2) + v3) (ln (rf v0 14)) = true then some (((gi x (rf v0 14) (ix ((100 * v1) + v3))) + (gi x (rf v0 14) (ix ((100 * v2) + v3)))) / 2, x) else none) else none)) = some (r, x') := hf
  refine lv_iload_n hx hb dd_MO_strength_0 rfl (lv_at hl 2 rfl) ?_
  refine lv_iconst (v := -1) hx hb dd_MO_strength_1 (by decide) ?_
  refine lv_icmp_ne (tgt := 19) hx hb dd_MO_strength_2 (by decide) (fun h_1 => ?_) (fun h_1 => ?_)
  · have hf := (if_neg h_1).symm.trans hf
    refine lv_aload_n hx hb dd_MO_strength_19 rfl (lv_at hl 0 rfl) ?_
    refine gf_MO_28 C0 hP ho_v0 dd_MO_strength_20 ?_
    refine lv_bipush (v := 100) hx hb dd_MO_strength_23 (by decide) ?_
    refine lv_iload_n hx hb dd_MO_strength_25 rfl (lv_at hl 1 rfl) ?_
    refine lv_imul hx hb dd_MO_strength_26 ?_
    refine lv_iload_n hx hb dd_MO_strength_27 rfl (lv_at hl 3 rfl) ?_
    refine lv_iadd hx hb dd_MO_strength_28 ?_
    obtain ⟨h_2, hf⟩ := of_ifb hf
    refine raI C0 hP (tp_6_14 ho_v0) h_2 dd_MO_strength_29 ?_
    refine lv_aload_n hx hb dd_MO_strength_30 rfl (lv_at hl 0 rfl) ?_
    refine gf_MO_28 C0 hP ho_v0 dd_MO_strength_31 ?_
    refine lv_bipush (v := 100) hx hb dd_MO_strength_34 (by decide) ?_
    refine lv_iload_n hx hb dd_MO_strength_36 rfl (lv_at hl 2 rfl) ?_
    refine lv_imul hx hb dd_MO_strength_37 ?_
    refine lv_iload_n hx hb dd_MO_strength_38 rfl (lv_at hl 3 rfl) ?_
    refine lv_iadd hx hb dd_MO_strength_39 ?_
    obtain ⟨h_3, hf⟩ := of_ifb hf
    refine raI C0 hP (tp_6_14 ho_v0) h_3 dd_MO_strength_40 ?_
    refine lv_iadd hx hb dd_MO_strength_41 ?_
    refine lv_iconst (v := 2) hx hb dd_MO_strength_42 (by decide) ?_
    refine lv_idiv hx hb dd_MO_strength_43 (by decide) ?_
    exact rrI C0 hP hS dd_MO_strength_44 hf
  · have hf := (if_pos h_1).symm.trans hf
    refine lv_aload_n hx hb dd_MO_strength_5 rfl (lv_at hl 0 rfl) ?_
    refine gf_MO_28 C0 hP ho_v0 dd_MO_strength_6 ?_
    refine lv_bipush (v := 100) hx hb dd_MO_strength_9 (by decide) ?_
    refine lv_iload_n hx hb dd_MO_strength_11 rfl (lv_at hl 1 rfl) ?_
    refine lv_imul hx hb dd_MO_strength_12 ?_
    refine lv_iload_n hx hb dd_MO_strength_13 rfl (lv_at hl 3 rfl) ?_
    refine lv_iadd hx hb dd_MO_strength_14 ?_
    obtain ⟨h_4, hf⟩ := of_ifb hf
    refine raI C0 hP (tp_6_14 ho_v0) h_4 dd_MO_strength_15 ?_
    refine lv_goto (tgt := 44) hx hb dd_MO_strength_16 (by decide) ?_
    exact rrI C0 hP hS dd_MO_strength_44 hf
theorem cc_MO_strength {l : Launch} {E : Ev} {A : Nat → Prop} {ad : Nat → Nat} (hap : Ap ad ixM A) {x x' : St} {v0 : Nat} {v1 : Int32} {v2 : Int32} {v3 : Int32} {r : Int32} (ho_v0 : isO ixM v0 6) (hf : ff_MO_strength x v0 v1 v2 v3 = some (r, x')) : Met l yy_MO_strength (Cond.code yy_MO_strength bb_MO_strength 4 (some .int) :: gtb) rm_MO_strength (va_Pc [.ref (ad v0), .int v1, .int v2, .int v3] (PB E A ad ixM x)) (QX E ad ixM A (some (.int r)) x') 0 0 A := by
  exact enter (by decide) (Nat.le_of_ble_eq_true rfl) (fun p e s m below meth c ls C0 hP hS hl => ww_MO_strength C0 hap ho_v0 hf hP hS hl)
theorem cl_MO_192 {p : Program} {l : Launch} {e : Env} {R : Room} {s : State} {m : MethodId} {args : Array Value} {below : List Frame} {meth : Method} {c : Code} {H : Heap} {locs : List Loc} {cells slots : Nat} {Q : State → Prop} {cc : ByteArray} {pc : Nat} {ls : Array Slot} {rest : List Value} {E : Ev} {A : Nat → Prop} {ad : Nat → Nat} {nL : Nat} {rt : Option FieldType} (C0 : Cx E A RMO cc nL rt p s m args meth c) (hap : Ap ad ixM A) {x x' : St} {v0 : Nat} {v1 : Int32} {v2 : Int32} {v3 : Int32} {r : Int32} (ho_v0 : isO ixM v0 6) (hc : ff_MO_strength x v0 v1 v2 v3 = some (r, x')) (hP : Wd E ad ixM x H) (hS : va_S A s.heap H locs) (hR : rm_MO_strength.frames + 1 ≤ R.frames ∧ 8 + (4 + 11) + rm_MO_strength.locals ≤ R.locals) (hls : ls.size = nL) (hroom : (rest.map fun v => v.category).sum ≤ 8) (hdg : decode cc pc = .ok (.invokevirtual 192, 3)) (hf : cells ≤ R.cells ∧ slots ≤ R.slots) (kk : ∀ H1 locs1, Wd E ad ixM x' H1 → va_S A s.heap H1 locs1 → W p l e R s m args below meth c H1 locs1 cells slots Q (F0 m (pc + 3) ls (.int r :: rest))) : W p l e R s m args below meth c H locs cells slots Q (F0 m pc ls (.int v3 :: .int v2 :: .int v1 :: .ref (ad v0) :: rest)) :=
  rcV (n := 3) C0 (cc_MO_strength hap ho_v0 hc) hP hS ho_v0 vcl_6 (by decide) gw_code_MO_strength gw_m_MO_192 gw_inst_MO_strength gw_sel_MO_strength gw_ini_MO rfl rfl (by decide +kernel) rfl hR hls rfl hroom hdg hf (fun H1 locs1 a _ _ b => kk H1 locs1 a b)
abbrev rm_MO_opensBy : Room := { frames := 1, cells := 0, slots := 0, locals := 23 }
theorem dd_MO_opensBy_0 : decode bb_MO_opensBy 0 = .ok (.bipush 25, 2) := by decide +kernel
theorem dd_MO_opensBy_2 : decode bb_MO_opensBy 2 = .ok (.iconst 4, 1) := by decide +kernel
theorem dd_MO_opensBy_3 : decode bb_MO_opensBy 3 = .ok (.iload_n 1, 1) := by decide +kernel
theorem dd_MO_opensBy_4 : decode bb_MO_opensBy 4 = .ok (.imul, 1) := by decide +kernel
theorem dd_MO_opensBy_5 : decode bb_MO_opensBy 5 = .ok (.iadd, 1) := by decide +kernel
theorem dd_MO_opensBy_6 : decode bb_MO_opensBy 6 = .ok (.istore_n 2, 1) := by decide +kernel
theorem dd_MO_opensBy_7 : decode bb_MO_opensBy 7 = .ok (.aload_n 0, 1) := by decide +kernel
theorem dd_MO_opensBy_8 : decode bb_MO_opensBy 8 = .ok (.iload_n 2, 1) := by decide +kernel
theorem dd_MO_opensBy_9 : decode bb_MO_opensBy 9 = .ok (.iconst 1, 1) := by decide +kernel
theorem dd_MO_opensBy_10 : decode bb_MO_opensBy 10 = .ok (.iadd, 1) := by decide +kernel
theorem dd_MO_opensBy_11 : decode bb_MO_opensBy 11 = .ok (.invokevirtual 60, 3) := by decide +kernel
theorem dd_MO_opensBy_14 : decode bb_MO_opensBy 14 = .ok (.istore_n 3, 1) := by decide +kernel
theorem dd_MO_opensBy_15 : decode bb_MO_opensBy 15 = .ok (.iload_n 3, 1) := by decide +kernel
theorem dd_MO_opensBy_16 : decode bb_MO_opensBy 16 = .ok (.bipush 99, 2) := by decide +kernel
theorem dd_MO_opensBy_18 : decode bb_MO_opensBy 18 = .ok (.if_icmp .gt 38, 3) := by decide +kernel
theorem dd_MO_opensBy_21 : decode bb_MO_opensBy 21 = .ok (.aload_n 0, 1) := by decide +kernel
theorem dd_MO_opensBy_22 : decode bb_MO_opensBy 22 = .ok (.aload_n 0, 1) := by decide +kernel
theorem dd_MO_opensBy_23 : decode bb_MO_opensBy 23 = .ok (.iload_n 2, 1) := by decide +kernel
theorem dd_MO_opensBy_24 : decode bb_MO_opensBy 24 = .ok (.iconst 2, 1) := by decide +kernel
theorem dd_MO_opensBy_25 : decode bb_MO_opensBy 25 = .ok (.iadd, 1) := by decide +kernel
theorem dd_MO_opensBy_26 : decode bb_MO_opensBy 26 = .ok (.invokevirtual 60, 3) := by decide +kernel
theorem dd_MO_opensBy_29 : decode bb_MO_opensBy 29 = .ok (.aload_n 0, 1) := by decide +kernel
theorem dd_MO_opensBy_30 : decode bb_MO_opensBy 30 = .ok (.iload_n 2, 1) := by decide +kernel
theorem dd_MO_opensBy_31 : decode bb_MO_opensBy 31 = .ok (.iconst 3, 1) := by decide +kernel
theorem dd_MO_opensBy_32 : decode bb_MO_opensBy 32 = .ok (.iadd, 1) := by decide +kernel
theorem dd_MO_opensBy_33 : decode bb_MO_opensBy 33 = .ok (.invokevirtual 60, 3) := by decide +kernel
theorem dd_MO_opensBy_36 : decode bb_MO_opensBy 36 = .ok (.iload_n 3, 1) := by decide +kernel
theorem dd_MO_opensBy_37 : decode bb_MO_opensBy 37 = .ok (.invokevirtual 192, 3) := by decide +kernel
theorem dd_MO_opensBy_40 : decode bb_MO_opensBy 40 = .ok (.aload_n 0, 1) := by decide +kernel
theorem dd_MO_opensBy_41 : decode bb_MO_opensBy 41 = .ok (.iload_n 2, 1) := by decide +kernel
theorem dd_MO_opensBy_42 : decode bb_MO_opensBy 42 = .ok (.invokevirtual 60, 3) := by decide +kernel
theorem dd_MO_opensBy_45 : decode bb_MO_opensBy 45 = .ok (.if_icmp .ge 5, 3) := by decide +kernel
theorem dd_MO_opensBy_48 : decode bb_MO_opensBy 48 = .ok (.iload_n 3, 1) := by decide +kernel
theorem dd_MO_opensBy_49 : decode bb_MO_opensBy 49 = .ok (.ireturn, 1) := by decide +kernel
theorem dd_MO_opensBy_50 : decode bb_MO_opensBy 50 = .ok (.iinc 3 1, 3) := by decide +kernel
theorem dd_MO_opensBy_53 : decode bb_MO_opensBy 53 = .ok (.goto (-38), 3) := by decide +kernel
theorem dd_MO_opensBy_56 : decode bb_MO_opensBy 56 = .ok (.bipush 100, 2) := by decide +kernel
theorem dd_MO_opensBy_58 : decode bb_MO_opensBy 58 = .ok (.ireturn, 1) := by decide +kernel
def ff_MO_opensBy_15  : Nat → St → Nat → Int32 → Int32 → Option (Int32 × St)
  | 0, _, _, _, _ => none
  | n + 1, x, v0, v2, v3 => (if 99 < v3 then some (100, x) else bnd (ff_MO_get x v0 (v2 + 2)) (fun r_5 x_6 => bnd (ff_MO_get x_6 v0 (v2 + 3)) (fun r_8 x_9 => bnd (ff_MO_strength x_9 v0 r_5 r_8 v3) (fun r_11 x_12 => bnd (ff_MO_get x_12 v0 v2) (fun r_14 x_15 => (if r_14 ≤ r_11 then ff_MO_opensBy_15 n x_15 v0 v2 (v3 + 1) else some (v3, x_15)))))))
def ff_MO_opensBy  (x : St) (v0 : Nat) (v1 : Int32) : Option (Int32 × St) := bnd (ff_MO_get x v0 ((25 + (4 * v1)) + 1)) (fun r_1 x_2 => ff_MO_opensBy_15 FU x_2 v0 (25 + (4 * v1)) r_1)
set_option maxHeartbeats 4000000 in
set_option maxRecDepth 100000 in
theorem ww_MO_opensBy_15 {p : Program} {l : Launch} {e : Env} {s : State} {m : MethodId} {args : Array Value} {below : List Frame} {meth : Method} {c : Code} {E : Ev} {A : Nat → Prop} {ad : Nat → Nat} {r : Int32} {x' : St} (C0 : Cx E A RMO bb_MO_opensBy 4 (some .int) p s m args meth c) (hap : Ap ad ixM A)  : ∀ (n : Nat), ∀ (x : St) (v0 : Nat) (v2 : Int32) (v3 : Int32), (isO ixM v0 6) → ff_MO_opensBy_15 n x v0 v2 v3 = some (r, x') → ∀ (H : Heap) (locs : List Loc) (ls : Array Slot), Wd E ad ixM x H → va_S A s.heap H locs → lv_has ls 4 [(0, .ref (ad v0)), (2, .int v2), (3, .int v3)] → W p l e rm_MO_opensBy s m args below meth c H locs 0 0 (MQ below (QX E ad ixM A (some (.int r)) x') args s 0 0 A) (F0 m 15 ls []) := by
  obtain ⟨hx, hb, hml, hr, hown, hts, hlk, hK⟩ := id C0
  intro n
  induction n with
  | zero => intro x v0 v2 v3 ho_v0 hf; exact of_no hf
  | succ n ih =>
    intro x v0 v2 v3 ho_v0 hf H locs ls hP hS hl
    have hf : (if 99 < v3 then some (100, x) else bnd (ff_MO_get x v0 (v2 + 2)) (fun r_5 x_6 => bnd (ff_MO_get x_6 v0 (v2 + 3)) (fun r_8 x_9 => bnd (ff_MO_strength x_9 v0 r_5 r_8 v3) (fun r_11 x_12 => bnd (ff_MO_get x_12 v0 v2) (fun r_14 x_15 => (if r_14 ≤ r_11 then ff_MO_opensBy_15 n x_15 v0 v2 (v3 + 1) else some (v3, x_15))))))) = some (r, x') := hf
    refine lv_iload_n hx hb dd_MO_opensBy_15 rfl (lv_at hl 2 rfl) ?_
    refine lv_bipush (v := 99) hx hb dd_MO_opensBy_16 (by decide) ?_
    refine lv_icmp_gt (tgt := 56) hx hb dd_MO_opensBy_18 (by decide) (fun h_4 => ?_) (fun h_4 => ?_)
    · have hf := (if_pos h_4).symm.trans hf
      refine lv_bipush (v := 100) hx hb dd_MO_opensBy_56 (by decide) ?_
      exact rrI C0 hP hS dd_MO_opensBy_58 hf
    · have hf := (if_neg h_4).symm.trans hf
      refine lv_aload_n hx hb dd_MO_opensBy_21 rfl (lv_at hl 0 rfl) ?_
      refine lv_aload_n hx hb dd_MO_opensBy_22 rfl (lv_at hl 0 rfl) ?_
      refine lv_iload_n hx hb dd_MO_opensBy_23 rfl (lv_at hl 1 rfl) ?_
      refine lv_iconst (v := 2) hx hb dd_MO_opensBy_24 (by decide) ?_
      refine lv_iadd hx hb dd_MO_opensBy_25 ?_
      obtain ⟨r_5, x_6, c_7, hf⟩ := of_bnd hf
      refine cl_MO_60 C0 hap ho_v0 c_7 hP hS ⟨Nat.le_of_ble_eq_true rfl, Nat.le_of_ble_eq_true rfl⟩ hl.1 (Nat.le_of_ble_eq_true rfl) dd_MO_opensBy_26 ⟨Nat.le_refl _, Nat.le_refl _⟩ (fun H locs hP hS => ?_)
      refine lv_aload_n hx hb dd_MO_opensBy_29 rfl (lv_at hl 0 rfl) ?_
      refine lv_iload_n hx hb dd_MO_opensBy_30 rfl (lv_at hl 1 rfl) ?_
      refine lv_iconst (v := 3) hx hb dd_MO_opensBy_31 (by decide) ?_
      refine lv_iadd hx hb dd_MO_opensBy_32 ?_
      obtain ⟨r_8, x_9, c_10, hf⟩ := of_bnd hf
      refine cl_MO_60 C0 hap ho_v0 c_10 hP hS ⟨Nat.le_of_ble_eq_true rfl, Nat.le_of_ble_eq_true rfl⟩ hl.1 (Nat.le_of_ble_eq_true rfl) dd_MO_opensBy_33 ⟨Nat.le_refl _, Nat.le_refl _⟩ (fun H locs hP hS => ?_)
      refine lv_iload_n hx hb dd_MO_opensBy_36 rfl (lv_at hl 2 rfl) ?_
      obtain ⟨r_11, x_12, c_13, hf⟩ := of_bnd hf
      refine cl_MO_192 C0 hap ho_v0 c_13 hP hS ⟨Nat.le_of_ble_eq_true rfl, Nat.le_of_ble_eq_true rfl⟩ hl.1 (Nat.le_of_ble_eq_true rfl) dd_MO_opensBy_37 ⟨Nat.le_refl _, Nat.le_refl _⟩ (fun H locs hP hS => ?_)
      refine lv_aload_n hx hb dd_MO_opensBy_40 rfl (lv_at hl 0 rfl) ?_
      refine lv_iload_n hx hb dd_MO_opensBy_41 rfl (lv_at hl 1 rfl) ?_
      obtain ⟨r_14, x_15, c_16, hf⟩ := of_bnd hf
      refine cl_MO_60 C0 hap ho_v0 c_16 hP hS ⟨Nat.le_of_ble_eq_true rfl, Nat.le_of_ble_eq_true rfl⟩ hl.1 (Nat.le_of_ble_eq_true rfl) dd_MO_opensBy_42 ⟨Nat.le_refl _, Nat.le_refl _⟩ (fun H locs hP hS => ?_)
      refine lv_icmp_ge (tgt := 50) hx hb dd_MO_opensBy_45 (by decide) (fun h_17 => ?_) (fun h_17 => ?_)
      · have hf := (if_pos h_17).symm.trans hf
        refine lv_iinc (v := v3 + 1) (lv' := [(3, .int (v3 + 1)), (0, .ref (ad v0)), (2, .int v2)]) hx hb dd_MO_opensBy_50 hl (k := 2) rfl rfl (by decide) rfl (fun ls hl => ?_)
        refine lv_goto (tgt := 15) hx hb dd_MO_opensBy_53 (by decide) ?_
        exact ih x_15 v0 v2 (v3 + 1) ho_v0 hf _ _ _ hP hS (lv_sub hl [1, 2, 0] rfl)
      · have hf := (if_neg h_17).symm.trans hf
        refine lv_iload_n hx hb dd_MO_opensBy_48 rfl (lv_at hl 2 rfl) ?_
        exact rrI C0 hP hS dd_MO_opensBy_49 hf
set_option maxHeartbeats 4000000 in
set_option maxRecDepth 100000 in
theorem ww_MO_opensBy {p : Program} {l : Launch} {e : Env} {s : State} {m : MethodId} {args : Array Value} {below : List Frame} {meth : Method} {c : Code} {E : Ev} {A : Nat → Prop} {ad : Nat → Nat} {r : Int32} {x' : St} (C0 : Cx E A RMO bb_MO_opensBy 4 (some .int) p s m args meth c) (hap : Ap ad ixM A)  {x : St} {v0 : Nat} {v1 : Int32} (ho_v0 : isO ixM v0 6) (hf : ff_MO_opensBy x v0 v1 = some (r, x')) {H : Heap} {locs : List Loc} {ls : Array Slot} (hP : Wd E ad ixM x H) (hS : va_S A s.heap H locs) (hl : lv_has ls 4 [(0, .ref (ad v0)), (1, .int v1)]) : W p l e rm_MO_opensBy s m args below meth c H locs 0 0 (MQ below (QX E ad ixM A (some (.int r)) x') args s 0 0 A) (F0 m 0 ls []) := by
  obtain ⟨hx, hb, hml, hr, hown, hts, hlk, hK⟩ := id C0
  have hf : bnd (ff_MO_get x v0 ((25 + (4 * v1)) + 1)) (fun r_1 x_2 => ff_MO_opensBy_15 FU x_2 v0 (25 + (4 * v1)) r_1) = some (r, x') := hf
  refine lv_bipush (v := 25) hx hb dd_MO_opensBy_0 (by decide) ?_
  refine lv_iconst (v := 4) hx hb dd_MO_opensBy_2 (by decide) ?_
  refine lv_iload_n hx hb dd_MO_opensBy_3 rfl (lv_at hl 1 rfl) ?_
  refine lv_imul hx hb dd_MO_opensBy_4 ?_
  refine lv_iadd hx hb dd_MO_opensBy_5 ?_
  refine lv_istore_n (lv' := [(2, .int (25 + (4 * v1))), (0, .ref (ad v0)), (1, .int v1)]) hx hb dd_MO_opensBy_6 rfl hl (by decide) rfl (fun ls hl => ?_)
  refine lv_aload_n hx hb dd_MO_opensBy_7 rfl (lv_at hl 1 rfl) ?_
  refine lv_iload_n hx hb dd_MO_opensBy_8 rfl (lv_at hl 0 rfl) ?_
  refine lv_iconst (v := 1) hx hb dd_MO_opensBy_9 (by decide) ?_
  refine lv_iadd hx hb dd_MO_opensBy_10 ?_
  obtain ⟨r_1, x_2, c_3, hf⟩ := of_bnd hf
  refine cl_MO_60 C0 hap ho_v0 c_3 hP hS ⟨Nat.le_of_ble_eq_true rfl, Nat.le_of_ble_eq_true rfl⟩ hl.1 (Nat.le_of_ble_eq_true rfl) dd_MO_opensBy_11 ⟨Nat.le_refl _, Nat.le_refl _⟩ (fun H locs hP hS => ?_)
  refine lv_istore_n (lv' := [(3, .int r_1), (2, .int (25 + (4 * v1))), (0, .ref (ad v0)), (1, .int v1)]) hx hb dd_MO_opensBy_14 rfl hl (by decide) rfl (fun ls hl => ?_)
  exact ww_MO_opensBy_15 C0 hap  FU x_2 v0 (25 + (4 * v1)) r_1 ho_v0 hf _ _ _ hP hS (lv_sub hl [2, 1, 0] rfl)
theorem cc_MO_opensBy {l : Launch} {E : Ev} {A : Nat → Prop} {ad : Nat → Nat} (hap : Ap ad ixM A) {x x' : St} {v0 : Nat} {v1 : Int32} {r : Int32} (ho_v0 : isO ixM v0 6) (hf : ff_MO_opensBy x v0 v1 = some (r, x')) : Met l yy_MO_opensBy (Cond.code yy_MO_opensBy bb_MO_opensBy 4 (some .int) :: gtb) rm_MO_opensBy (va_Pc [.ref (ad v0), .int v1] (PB E A ad ixM x)) (QX E ad ixM A (some (.int r)) x') 0 0 A := by
  exact enter (by decide) (Nat.le_of_ble_eq_true rfl) (fun p e s m below meth c ls C0 hP hS hl => ww_MO_opensBy C0 hap ho_v0 hf hP hS hl)
theorem cl_MO_189 {p : Program} {l : Launch} {e : Env} {R : Room} {s : State} {m : MethodId} {args : Array Value} {below : List Frame} {meth : Method} {c : Code} {H : Heap} {locs : List Loc} {cells slots : Nat} {Q : State → Prop} {cc : ByteArray} {pc : Nat} {ls : Array Slot} {rest : List Value} {E : Ev} {A : Nat → Prop} {ad : Nat → Nat} {nL : Nat} {rt : Option FieldType} (C0 : Cx E A RMO cc nL rt p s m args meth c) (hap : Ap ad ixM A) {x x' : St} {v0 : Nat} {v1 : Int32} {r : Unit} (ho_v0 : isO ixM v0 6) (hc : ff_MO_findGriefs x v0 v1 = some (r, x')) (hP : Wd E ad ixM x H) (hS : va_S A s.heap H locs) (hR : rm_MO_findGriefs.frames + 1 ≤ R.frames ∧ 8 + (4 + 11) + rm_MO_findGriefs.locals ≤ R.locals) (hls : ls.size = nL) (hroom : (rest.map fun v => v.category).sum ≤ 8) (hdg : decode cc pc = .ok (.invokevirtual 189, 3)) (hf : cells ≤ R.cells ∧ slots ≤ R.slots) (kk : ∀ H1 locs1, Wd E ad ixM x' H1 → va_S A s.heap H1 locs1 → W p l e R s m args below meth c H1 locs1 cells slots Q (F0 m (pc + 3) ls (rest))) : W p l e R s m args below meth c H locs cells slots Q (F0 m pc ls (.int v1 :: .ref (ad v0) :: rest)) :=
  rcV (n := 1) C0 (cc_MO_findGriefs hap ho_v0 hc) hP hS ho_v0 vcl_6 (by decide) gw_code_MO_findGriefs gw_m_MO_189 gw_inst_MO_findGriefs gw_sel_MO_findGriefs gw_ini_MO rfl rfl (by decide +kernel) rfl hR hls rfl hroom hdg hf (fun H1 locs1 a _ _ b => kk H1 locs1 a b)
theorem cl_MO_195 {p : Program} {l : Launch} {e : Env} {R : Room} {s : State} {m : MethodId} {args : Array Value} {below : List Frame} {meth : Method} {c : Code} {H : Heap} {locs : List Loc} {cells slots : Nat} {Q : State → Prop} {cc : ByteArray} {pc : Nat} {ls : Array Slot} {rest : List Value} {E : Ev} {A : Nat → Prop} {ad : Nat → Nat} {nL : Nat} {rt : Option FieldType} (C0 : Cx E A RMO cc nL rt p s m args meth c) (hap : Ap ad ixM A) {x x' : St} {v0 : Nat} {v1 : Int32} {r : Int32} (ho_v0 : isO ixM v0 6) (hc : ff_MO_opensBy x v0 v1 = some (r, x')) (hP : Wd E ad ixM x H) (hS : va_S A s.heap H locs) (hR : rm_MO_opensBy.frames + 1 ≤ R.frames ∧ 8 + (4 + 11) + rm_MO_opensBy.locals ≤ R.locals) (hls : ls.size = nL) (hroom : (rest.map fun v => v.category).sum ≤ 8) (hdg : decode cc pc = .ok (.invokevirtual 195, 3)) (hf : cells ≤ R.cells ∧ slots ≤ R.slots) (kk : ∀ H1 locs1, Wd E ad ixM x' H1 → va_S A s.heap H1 locs1 → W p l e R s m args below meth c H1 locs1 cells slots Q (F0 m (pc + 3) ls (.int r :: rest))) : W p l e R s m args below meth c H locs cells slots Q (F0 m pc ls (.int v1 :: .ref (ad v0) :: rest)) :=
  rcV (n := 1) C0 (cc_MO_opensBy hap ho_v0 hc) hP hS ho_v0 vcl_6 (by decide) gw_code_MO_opensBy gw_m_MO_195 gw_inst_MO_opensBy gw_sel_MO_opensBy gw_ini_MO rfl rfl (by decide +kernel) rfl hR hls rfl hroom hdg hf (fun H1 locs1 a _ _ b => kk H1 locs1 a b)
abbrev rm_MO_opensOn : Room := { frames := 5, cells := 0, slots := 0, locals := 113 }
theorem dd_MO_opensOn_0 : decode bb_MO_opensOn 0 = .ok (.aload_n 0, 1) := by decide +kernel
theorem dd_MO_opensOn_1 : decode bb_MO_opensOn 1 = .ok (.iconst (-1), 1) := by decide +kernel
theorem dd_MO_opensOn_2 : decode bb_MO_opensOn 2 = .ok (.invokevirtual 189, 3) := by decide +kernel
theorem dd_MO_opensOn_5 : decode bb_MO_opensOn 5 = .ok (.aload_n 0, 1) := by decide +kernel
theorem dd_MO_opensOn_6 : decode bb_MO_opensOn 6 = .ok (.iload_n 1, 1) := by decide +kernel
theorem dd_MO_opensOn_7 : decode bb_MO_opensOn 7 = .ok (.invokevirtual 195, 3) := by decide +kernel
theorem dd_MO_opensOn_10 : decode bb_MO_opensOn 10 = .ok (.ireturn, 1) := by decide +kernel
def ff_MO_opensOn  (x : St) (v0 : Nat) (v1 : Int32) : Option (Int32 × St) := bnd (ff_MO_findGriefs x v0 (-1)) (fun _ x_2 => bnd (ff_MO_opensBy x_2 v0 v1) (fun r_4 x_5 => some (r_4, x_5)))
set_option maxHeartbeats 4000000 in
set_option maxRecDepth 100000 in
theorem ww_MO_opensOn {p : Program} {l : Launch} {e : Env} {s : State} {m : MethodId} {args : Array Value} {below : List Frame} {meth : Method} {c : Code} {E : Ev} {A : Nat → Prop} {ad : Nat → Nat} {r : Int32} {x' : St} (C0 : Cx E A RMO bb_MO_opensOn 2 (some .int) p s m args meth c) (hap : Ap ad ixM A)  {x : St} {v0 : Nat} {v1 : Int32} (ho_v0 : isO ixM v0 6) (hf : ff_MO_opensOn x v0 v1 = some (r, x')) {H : Heap} {locs : List Loc} {ls : Array Slot} (hP : Wd E ad ixM x H) (hS : va_S A s.heap H locs) (hl : lv_has ls 2 [(0, .ref (ad v0)), (1, .int v1)]) : W p l e rm_MO_opensOn s m args below meth c H locs 0 0 (MQ below (QX E ad ixM A (some (.int r)) x') args s 0 0 A) (F0 m 0 ls []) := by
  obtain ⟨hx, hb, hml, hr, hown, hts, hlk, hK⟩ := id C0
  have hf : bnd (ff_MO_findGriefs x v0 (-1)) (fun _ x_2 => bnd (ff_MO_opensBy x_2 v0 v1) (fun r_4 x_5 => some (r_4, x_5))) = some (r, x') := hf
  refine lv_aload_n hx hb dd_MO_opensOn_0 rfl (lv_at hl 0 rfl) ?_
  refine lv_iconst (v := -1) hx hb dd_MO_opensOn_1 (by decide) ?_
  obtain ⟨_, x_2, c_3, hf⟩ := of_bnd hf
  refine cl_MO_189 C0 hap ho_v0 c_3 hP hS ⟨Nat.le_of_ble_eq_true rfl, Nat.le_of_ble_eq_true rfl⟩ hl.1 (Nat.le_of_ble_eq_true rfl) dd_MO_opensOn_2 ⟨Nat.le_refl _, Nat.le_refl _⟩ (fun H locs hP hS => ?_)
  refine lv_aload_n hx hb dd_MO_opensOn_5 rfl (lv_at hl 0 rfl) ?_
  refine lv_iload_n hx hb dd_MO_opensOn_6 rfl (lv_at hl 1 rfl) ?_
  obtain ⟨r_4, x_5, c_6, hf⟩ := of_bnd hf
  refine cl_MO_195 C0 hap ho_v0 c_6 hP hS ⟨Nat.le_of_ble_eq_true rfl, Nat.le_of_ble_eq_true rfl⟩ hl.1 (Nat.le_of_ble_eq_true rfl) dd_MO_opensOn_7 ⟨Nat.le_refl _, Nat.le_refl _⟩ (fun H locs hP hS => ?_)
  exact rrI C0 hP hS dd_MO_opensOn_10 hf
theorem cc_MO_opensOn {l : Launch} {E : Ev} {A : Nat → Prop} {ad : Nat → Nat} (hap : Ap ad ixM A) {x x' : St} {v0 : Nat} {v1 : Int32} {r : Int32} (ho_v0 : isO ixM v0 6) (hf : ff_MO_opensOn x v0 v1 = some (r, x')) : Met l yy_MO_opensOn (Cond.code yy_MO_opensOn bb_MO_opensOn 2 (some .int) :: gtb) rm_MO_opensOn (va_Pc [.ref (ad v0), .int v1] (PB E A ad ixM x)) (QX E ad ixM A (some (.int r)) x') 0 0 A := by
  exact enter (by decide) (Nat.le_of_ble_eq_true rfl) (fun p e s m below meth c ls C0 hP hS hl => ww_MO_opensOn C0 hap ho_v0 hf hP hS hl)
theorem cl_MO_103 {p : Program} {l : Launch} {e : Env} {R : Room} {s : State} {m : MethodId} {args : Array Value} {below : List Frame} {meth : Method} {c : Code} {H : Heap} {locs : List Loc} {cells slots : Nat} {Q : State → Prop} {cc : ByteArray} {pc : Nat} {ls : Array Slot} {rest : List Value} {E : Ev} {A : Nat → Prop} {ad : Nat → Nat} {nL : Nat} {rt : Option FieldType} (C0 : Cx E A RMO cc nL rt p s m args meth c) (hap : Ap ad ixM A) {x x' : St} {v0 : Nat} {v1 : Int32} {r : Int32} (ho_v0 : isO ixM v0 6) (hc : ff_MO_isJoint x v0 v1 = some (r, x')) (hP : Wd E ad ixM x H) (hS : va_S A s.heap H locs) (hR : rm_MO_isJoint.frames + 1 ≤ R.frames ∧ 8 + (2 + 11) + rm_MO_isJoint.locals ≤ R.locals) (hls : ls.size = nL) (hroom : (rest.map fun v => v.category).sum ≤ 8) (hdg : decode cc pc = .ok (.invokevirtual 103, 3)) (hf : cells ≤ R.cells ∧ slots ≤ R.slots) (kk : ∀ H1 locs1, Wd E ad ixM x' H1 → va_S A s.heap H1 locs1 → W p l e R s m args below meth c H1 locs1 cells slots Q (F0 m (pc + 3) ls (.int r :: rest))) : W p l e R s m args below meth c H locs cells slots Q (F0 m pc ls (.int v1 :: .ref (ad v0) :: rest)) :=
  rcV (n := 1) C0 (cc_MO_isJoint hap ho_v0 hc) hP hS ho_v0 vcl_6 (by decide) gw_code_MO_isJoint gw_m_MO_103 gw_inst_MO_isJoint gw_sel_MO_isJoint gw_ini_MO rfl rfl (by decide +kernel) rfl hR hls rfl hroom hdg hf (fun H1 locs1 a _ _ b => kk H1 locs1 a b)
theorem cl_MO_106 {p : Program} {l : Launch} {e : Env} {R : Room} {s : State} {m : MethodId} {args : Array Value} {below : List Frame} {meth : Method} {c : Code} {H : Heap} {locs : List Loc} {cells slots : Nat} {Q : State → Prop} {cc : ByteArray} {pc : Nat} {ls : Array Slot} {rest : List Value} {E : Ev} {A : Nat → Prop} {ad : Nat → Nat} {nL : Nat} {rt : Option FieldType} (C0 : Cx E A RMO cc nL rt p s m args meth c) (hap : Ap ad ixM A) {x x' : St} {v0 : Nat} {r : Unit} (ho_v0 : isO ixM v0 6) (hc : ff_MO_know x v0 = some (r, x')) (hP : Wd E ad ixM x H) (hS : va_S A s.heap H locs) (hR : rm_MO_know.frames + 1 ≤ R.frames ∧ 8 + (4 + 11) + rm_MO_know.locals ≤ R.locals) (hls : ls.size = nL) (hroom : (rest.map fun v => v.category).sum ≤ 8) (hdg : decode cc pc = .ok (.invokevirtual 106, 3)) (hf : cells ≤ R.cells ∧ slots ≤ R.slots) (kk : ∀ H1 locs1, Wd E ad ixM x' H1 → va_S A s.heap H1 locs1 → W p l e R s m args below meth c H1 locs1 cells slots Q (F0 m (pc + 3) ls (rest))) : W p l e R s m args below meth c H locs cells slots Q (F0 m pc ls (.ref (ad v0) :: rest)) :=
  rcV (n := 0) C0 (cc_MO_know hap ho_v0 hc) hP hS ho_v0 vcl_6 (by decide) gw_code_MO_know gw_m_MO_106 gw_inst_MO_know gw_sel_MO_know gw_ini_MO rfl rfl (by decide +kernel) rfl hR hls rfl hroom hdg hf (fun H1 locs1 a _ _ b => kk H1 locs1 a b)
theorem cl_MO_109 {p : Program} {l : Launch} {e : Env} {R : Room} {s : State} {m : MethodId} {args : Array Value} {below : List Frame} {meth : Method} {c : Code} {H : Heap} {locs : List Loc} {cells slots : Nat} {Q : State → Prop} {cc : ByteArray} {pc : Nat} {ls : Array Slot} {rest : List Value} {E : Ev} {A : Nat → Prop} {ad : Nat → Nat} {nL : Nat} {rt : Option FieldType} (C0 : Cx E A RMO cc nL rt p s m args meth c) (hap : Ap ad ixM A) {x x' : St} {v0 : Nat} {v1 : Int32} {v2 : Int32} {v3 : Int32} {r : Unit} (ho_v0 : isO ixM v0 6) (hc : ff_MO_boiled x v0 v1 v2 v3 = some (r, x')) (hP : Wd E ad ixM x H) (hS : va_S A s.heap H locs) (hR : rm_MO_boiled.frames + 1 ≤ R.frames ∧ 8 + (5 + 11) + rm_MO_boiled.locals ≤ R.locals) (hls : ls.size = nL) (hroom : (rest.map fun v => v.category).sum ≤ 8) (hdg : decode cc pc = .ok (.invokevirtual 109, 3)) (hf : cells ≤ R.cells ∧ slots ≤ R.slots) (kk : ∀ H1 locs1, Wd E ad ixM x' H1 → va_S A s.heap H1 locs1 → W p l e R s m args below meth c H1 locs1 cells slots Q (F0 m (pc + 3) ls (rest))) : W p l e R s m args below meth c H locs cells slots Q (F0 m pc ls (.int v3 :: .int v2 :: .int v1 :: .ref (ad v0) :: rest)) :=
  rcV (n := 3) C0 (cc_MO_boiled hap ho_v0 hc) hP hS ho_v0 vcl_6 (by decide) gw_code_MO_boiled gw_m_MO_109 gw_inst_MO_boiled gw_sel_MO_boiled gw_ini_MO rfl rfl (by decide +kernel) rfl hR hls rfl hroom hdg hf (fun H1 locs1 a _ _ b => kk H1 locs1 a b)
theorem cl_MO_112 {p : Program} {l : Launch} {e : Env} {R : Room} {s : State} {m : MethodId} {args : Array Value} {below : List Frame} {meth : Method} {c : Code} {H : Heap} {locs : List Loc} {cells slots : Nat} {Q : State → Prop} {cc : ByteArray} {pc : Nat} {ls : Array Slot} {rest : List Value} {E : Ev} {A : Nat → Prop} {ad : Nat → Nat} {nL : Nat} {rt : Option FieldType} (C0 : Cx E A RMO cc nL rt p s m args meth c) (hap : Ap ad ixM A) {x x' : St} {v0 : Nat} {v1 : Int32} {r : Int32} (ho_v0 : isO ixM v0 6) (hc : ff_MO_opensOn x v0 v1 = some (r, x')) (hP : Wd E ad ixM x H) (hS : va_S A s.heap H locs) (hR : rm_MO_opensOn.frames + 1 ≤ R.frames ∧ 8 + (2 + 11) + rm_MO_opensOn.locals ≤ R.locals) (hls : ls.size = nL) (hroom : (rest.map fun v => v.category).sum ≤ 8) (hdg : decode cc pc = .ok (.invokevirtual 112, 3)) (hf : cells ≤ R.cells ∧ slots ≤ R.slots) (kk : ∀ H1 locs1, Wd E ad ixM x' H1 → va_S A s.heap H1 locs1 → W p l e R s m args below meth c H1 locs1 cells slots Q (F0 m (pc + 3) ls (.int r :: rest))) : W p l e R s m args below meth c H locs cells slots Q (F0 m pc ls (.int v1 :: .ref (ad v0) :: rest)) :=
  rcV (n := 1) C0 (cc_MO_opensOn hap ho_v0 hc) hP hS ho_v0 vcl_6 (by decide) gw_code_MO_opensOn gw_m_MO_112 gw_inst_MO_opensOn gw_sel_MO_opensOn gw_ini_MO rfl rfl (by decide +kernel) rfl hR hls rfl hroom hdg hf (fun H1 locs1 a _ _ b => kk H1 locs1 a b)
abbrev rm_MO_boil : Room := { frames := 6, cells := 0, slots := 0, locals := 134 }
theorem dd_MO_boil_0 : decode bb_MO_boil 0 = .ok (.aload_n 0, 1) := by decide +kernel
theorem dd_MO_boil_1 : decode bb_MO_boil 1 = .ok (.iload_n 1, 1) := by decide +kernel
theorem dd_MO_boil_2 : decode bb_MO_boil 2 = .ok (.invokevirtual 103, 3) := by decide +kernel
theorem dd_MO_boil_5 : decode bb_MO_boil 5 = .ok (.ifCond .eq 29, 3) := by decide +kernel
theorem dd_MO_boil_8 : decode bb_MO_boil 8 = .ok (.aload_n 0, 1) := by decide +kernel
theorem dd_MO_boil_9 : decode bb_MO_boil 9 = .ok (.iload_n 2, 1) := by decide +kernel
theorem dd_MO_boil_10 : decode bb_MO_boil 10 = .ok (.invokevirtual 94, 3) := by decide +kernel
theorem dd_MO_boil_13 : decode bb_MO_boil 13 = .ok (.ifCond .eq 21, 3) := by decide +kernel
theorem dd_MO_boil_16 : decode bb_MO_boil 16 = .ok (.iload_n 3, 1) := by decide +kernel
theorem dd_MO_boil_17 : decode bb_MO_boil 17 = .ok (.iconst (-1), 1) := by decide +kernel
theorem dd_MO_boil_18 : decode bb_MO_boil 18 = .ok (.if_icmp .eq 11, 3) := by decide +kernel
theorem dd_MO_boil_21 : decode bb_MO_boil 21 = .ok (.aload_n 0, 1) := by decide +kernel
theorem dd_MO_boil_22 : decode bb_MO_boil 22 = .ok (.iload_n 3, 1) := by decide +kernel
theorem dd_MO_boil_23 : decode bb_MO_boil 23 = .ok (.invokevirtual 94, 3) := by decide +kernel
theorem dd_MO_boil_26 : decode bb_MO_boil 26 = .ok (.ifCond .eq 8, 3) := by decide +kernel
theorem dd_MO_boil_29 : decode bb_MO_boil 29 = .ok (.iload_n 2, 1) := by decide +kernel
theorem dd_MO_boil_30 : decode bb_MO_boil 30 = .ok (.iload_n 3, 1) := by decide +kernel
theorem dd_MO_boil_31 : decode bb_MO_boil 31 = .ok (.if_icmp .ne 8, 3) := by decide +kernel
theorem dd_MO_boil_34 : decode bb_MO_boil 34 = .ok (.aload_n 0, 1) := by decide +kernel
theorem dd_MO_boil_35 : decode bb_MO_boil 35 = .ok (.invokevirtual 72, 3) := by decide +kernel
theorem dd_MO_boil_38 : decode bb_MO_boil 38 = .ok (.ireturn, 1) := by decide +kernel
theorem dd_MO_boil_39 : decode bb_MO_boil 39 = .ok (.aload_n 0, 1) := by decide +kernel
theorem dd_MO_boil_40 : decode bb_MO_boil 40 = .ok (.invokevirtual 106, 3) := by decide +kernel
theorem dd_MO_boil_43 : decode bb_MO_boil 43 = .ok (.aload_n 0, 1) := by decide +kernel
theorem dd_MO_boil_44 : decode bb_MO_boil 44 = .ok (.iload_n 1, 1) := by decide +kernel
theorem dd_MO_boil_45 : decode bb_MO_boil 45 = .ok (.iload_n 2, 1) := by decide +kernel
theorem dd_MO_boil_46 : decode bb_MO_boil 46 = .ok (.iload_n 3, 1) := by decide +kernel
theorem dd_MO_boil_47 : decode bb_MO_boil 47 = .ok (.invokevirtual 109, 3) := by decide +kernel
theorem dd_MO_boil_50 : decode bb_MO_boil 50 = .ok (.aload_n 0, 1) := by decide +kernel
theorem dd_MO_boil_51 : decode bb_MO_boil 51 = .ok (.iload_n 1, 1) := by decide +kernel
theorem dd_MO_boil_52 : decode bb_MO_boil 52 = .ok (.invokevirtual 112, 3) := by decide +kernel
theorem dd_MO_boil_55 : decode bb_MO_boil 55 = .ok (.ireturn, 1) := by decide +kernel
def ff_MO_boil_29  (x : St) (v0 : Nat) (v1 : Int32) (v2 : Int32) (v3 : Int32) : Option (Int32 × St) := (if v2 = v3 then bnd (ff_MO_bad x v0) (fun r_26 x_27 => some (r_26, x_27)) else bnd (ff_MO_know x v0) (fun _ x_18 => bnd (ff_MO_boiled x_18 v0 v1 v2 v3) (fun _ x_21 => bnd (ff_MO_opensOn x_21 v0 v1) (fun r_23 x_24 => some (r_23, x_24)))))
def ff_MO_boil  (x : St) (v0 : Nat) (v1 : Int32) (v2 : Int32) (v3 : Int32) : Option (Int32 × St) := bnd (ff_MO_isJoint x v0 v1) (fun r_1 x_2 => (if r_1 = 0 then bnd (ff_MO_bad x_2 v0) (fun r_5 x_6 => some (r_5, x_6)) else bnd (ff_MO_isMourner x_2 v0 v2) (fun r_8 x_9 => (if r_8 = 0 then bnd (ff_MO_bad x_9 v0) (fun r_12 x_13 => some (r_12, x_13)) else (if v3 = (-1) then ff_MO_boil_29 x_9 v0 v1 v2 v3 else bnd (ff_MO_isMourner x_9 v0 v3) (fun r_29 x_30 => (if r_29 = 0 then bnd (ff_MO_bad x_30 v0) (fun r_33 x_34 => some (r_33, x_34)) else ff_MO_boil_29 x_30 v0 v1 v2 v3)))))))
set_option maxHeartbeats 4000000 in
set_option maxRecDepth 100000 in
theorem ww_MO_boil_29 {p : Program} {l : Launch} {e : Env} {s : State} {m : MethodId} {args : Array Value} {below : List Frame} {meth : Method} {c : Code} {E : Ev} {A : Nat → Prop} {ad : Nat → Nat} {r : Int32} {x' : St} (C0 : Cx E A RMO bb_MO_boil 4 (some .int) p s m args meth c) (hap : Ap ad ixM A)  {x : St} {v0 : Nat} {v1 : Int32} {v2 : Int32} {v3 : Int32} (ho_v0 : isO ixM v0 6) (hf : ff_MO_boil_29 x v0 v1 v2 v3 = some (r, x')) {H : Heap} {locs : List Loc} {ls : Array Slot} (hP : Wd E ad ixM x H) (hS : va_S A s.heap H locs) (hl : lv_has ls 4 [(0, .ref (ad v0)), (1, .int v1), (2, .int v2), (3, .int v3)]) : W p l e rm_MO_boil s m args below meth c H locs 0 0 (MQ below (QX E ad ixM A (some (.int r)) x') args s 0 0 A) (F0 m 29 ls []) := by
  obtain ⟨hx, hb, hml, hr, hown, hts, hlk, hK⟩ := id C0
  have hf : (if v2 = v3 then bnd (ff_MO_bad x v0) (fun r_26 x_27 => some (r_26, x_27)) else bnd (ff_MO_know x v0) (fun _ x_18 => bnd (ff_MO_boiled x_18 v0 v1 v2 v3) (fun _ x_21 => bnd (ff_MO_opensOn x_21 v0 v1) (fun r_23 x_24 => some (r_23, x_24))))) = some (r, x') := hf
  refine lv_iload_n hx hb dd_MO_boil_29 rfl (lv_at hl 2 rfl) ?_
  refine lv_iload_n hx hb dd_MO_boil_30 rfl (lv_at hl 3 rfl) ?_
  refine lv_icmp_ne (tgt := 39) hx hb dd_MO_boil_31 (by decide) (fun h_16 => ?_) (fun h_16 => ?_)
  · have hf := (if_neg h_16).symm.trans hf
    refine lv_aload_n hx hb dd_MO_boil_39 rfl (lv_at hl 0 rfl) ?_
    obtain ⟨_, x_18, c_19, hf⟩ := of_bnd hf
    refine cl_MO_106 C0 hap ho_v0 c_19 hP hS ⟨Nat.le_of_ble_eq_true rfl, Nat.le_of_ble_eq_true rfl⟩ hl.1 (Nat.le_of_ble_eq_true rfl) dd_MO_boil_40 ⟨Nat.le_refl _, Nat.le_refl _⟩ (fun H locs hP hS => ?_)
    refine lv_aload_n hx hb dd_MO_boil_43 rfl (lv_at hl 0 rfl) ?_
    refine lv_iload_n hx hb dd_MO_boil_44 rfl (lv_at hl 1 rfl) ?_
    refine lv_iload_n hx hb dd_MO_boil_45 rfl (lv_at hl 2 rfl) ?_
    refine lv_iload_n hx hb dd_MO_boil_46 rfl (lv_at hl 3 rfl) ?_
    obtain ⟨_, x_21, c_22, hf⟩ := of_bnd hf
    refine cl_MO_109 C0 hap ho_v0 c_22 hP hS ⟨Nat.le_of_ble_eq_true rfl, Nat.le_of_ble_eq_true rfl⟩ hl.1 (Nat.le_of_ble_eq_true rfl) dd_MO_boil_47 ⟨Nat.le_refl _, Nat.le_refl _⟩ (fun H locs hP hS => ?_)
    refine lv_aload_n hx hb dd_MO_boil_50 rfl (lv_at hl 0 rfl) ?_
    refine lv_iload_n hx hb dd_MO_boil_51 rfl (lv_at hl 1 rfl) ?_
    obtain ⟨r_23, x_24, c_25, hf⟩ := of_bnd hf
    refine cl_MO_112 C0 hap ho_v0 c_25 hP hS ⟨Nat.le_of_ble_eq_true rfl, Nat.le_of_ble_eq_true rfl⟩ hl.1 (Nat.le_of_ble_eq_true rfl) dd_MO_boil_52 ⟨Nat.le_refl _, Nat.le_refl _⟩ (fun H locs hP hS => ?_)
    exact rrI C0 hP hS dd_MO_boil_55 hf
  · have hf := (if_pos h_16).symm.trans hf
    refine lv_aload_n hx hb dd_MO_boil_34 rfl (lv_at hl 0 rfl) ?_
    obtain ⟨r_26, x_27, c_28, hf⟩ := of_bnd hf
    refine cl_MO_72 C0 hap ho_v0 c_28 hP hS ⟨Nat.le_of_ble_eq_true rfl, Nat.le_of_ble_eq_true rfl⟩ hl.1 (Nat.le_of_ble_eq_true rfl) dd_MO_boil_35 ⟨Nat.le_refl _, Nat.le_refl _⟩ (fun H locs hP hS => ?_)
    exact rrI C0 hP hS dd_MO_boil_38 hf
set_option maxHeartbeats 4000000 in
set_option maxRecDepth 100000 in
theorem ww_MO_boil {p : Program} {l : Launch} {e : Env} {s : State} {m : MethodId} {args : Array Value} {below : List Frame} {meth : Method} {c : Code} {E : Ev} {A : Nat → Prop} {ad : Nat → Nat} {r : Int32} {x' : St} (C0 : Cx E A RMO bb_MO_boil 4 (some .int) p s m args meth c) (hap : Ap ad ixM A)  {x : St} {v0 : Nat} {v1 : Int32} {v2 : Int32} {v3 : Int32} (ho_v0 : isO ixM v0 6) (hf : ff_MO_boil x v0 v1 v2 v3 = some (r, x')) {H : Heap} {locs : List Loc} {ls : Array Slot} (hP : Wd E ad ixM x H) (hS : va_S A s.heap H locs) (hl : lv_has ls 4 [(0, .ref (ad v0)), (1, .int v1), (2, .int v2), (3, .int v3)]) : W p l e rm_MO_boil s m args below meth c H locs 0 0 (MQ below (QX E ad ixM A (some (.int r)) x') args s 0 0 A) (F0 m 0 ls []) := by
  obtain ⟨hx, hb, hml, hr, hown, hts, hlk, hK⟩ := id C0
  have hf : bnd (ff_MO_isJoint x v0 v1) (fun r_1 x_2 => (if r_1 = 0 then bnd (ff_MO_bad x_2 v0) (fun r_5 x_6 => some (r_5, x_6)) else bnd (ff_MO_isMourner x_2 v0 v2) (fun r_8 x_9 => (if r_8 = 0 then bnd (ff_MO_bad x_9 v0) (fun r_12 x_13 => some (r_12, x_13)) else (if v3 = (-1) then ff_MO_boil_29 x_9 v0 v1 v2 v3 else bnd (ff_MO_isMourner x_9 v0 v3) (fun r_29 x_30 => (if r_29 = 0 then bnd (ff_MO_bad x_30 v0) (fun r_33 x_34 => some (r_33, x_34)) else ff_MO_boil_29 x_30 v0 v1 v2 v3))))))) = some (r, x') := hf
  refine lv_aload_n hx hb dd_MO_boil_0 rfl (lv_at hl 0 rfl) ?_
  refine lv_iload_n hx hb dd_MO_boil_1 rfl (lv_at hl 1 rfl) ?_
  obtain ⟨r_1, x_2, c_3, hf⟩ := of_bnd hf
  refine cl_MO_103 C0 hap ho_v0 c_3 hP hS ⟨Nat.le_of_ble_eq_true rfl, Nat.le_of_ble_eq_true rfl⟩ hl.1 (Nat.le_of_ble_eq_true rfl) dd_MO_boil_2 ⟨Nat.le_refl _, Nat.le_refl _⟩ (fun H locs hP hS => ?_)
  refine lv_if_eq (tgt := 34) hx hb dd_MO_boil_5 (by decide) (fun h_4 => ?_) (fun h_4 => ?_)
  · have hf := (if_pos h_4).symm.trans hf
    refine lv_aload_n hx hb dd_MO_boil_34 rfl (lv_at hl 0 rfl) ?_
    obtain ⟨r_5, x_6, c_7, hf⟩ := of_bnd hf
    refine cl_MO_72 C0 hap ho_v0 c_7 hP hS ⟨Nat.le_of_ble_eq_true rfl, Nat.le_of_ble_eq_true rfl⟩ hl.1 (Nat.le_of_ble_eq_true rfl) dd_MO_boil_35 ⟨Nat.le_refl _, Nat.le_refl _⟩ (fun H locs hP hS => ?_)
    exact rrI C0 hP hS dd_MO_boil_38 hf
  · have hf := (if_neg h_4).symm.trans hf
    refine lv_aload_n hx hb dd_MO_boil_8 rfl (lv_at hl 0 rfl) ?_
    refine lv_iload_n hx hb dd_MO_boil_9 rfl (lv_at hl 2 rfl) ?_
    obtain ⟨r_8, x_9, c_10, hf⟩ := of_bnd hf
    refine cl_MO_94 C0 hap ho_v0 c_10 hP hS ⟨Nat.le_of_ble_eq_true rfl, Nat.le_of_ble_eq_true rfl⟩ hl.1 (Nat.le_of_ble_eq_true rfl) dd_MO_boil_10 ⟨Nat.le_refl _, Nat.le_refl _⟩ (fun H locs hP hS => ?_)
    refine lv_if_eq (tgt := 34) hx hb dd_MO_boil_13 (by decide) (fun h_11 => ?_) (fun h_11 => ?_)
    · have hf := (if_pos h_11).symm.trans hf
      refine lv_aload_n hx hb dd_MO_boil_34 rfl (lv_at hl 0 rfl) ?_
      obtain ⟨r_12, x_13, c_14, hf⟩ := of_bnd hf
      refine cl_MO_72 C0 hap ho_v0 c_14 hP hS ⟨Nat.le_of_ble_eq_true rfl, Nat.le_of_ble_eq_true rfl⟩ hl.1 (Nat.le_of_ble_eq_true rfl) dd_MO_boil_35 ⟨Nat.le_refl _, Nat.le_refl _⟩ (fun H locs hP hS => ?_)
      exact rrI C0 hP hS dd_MO_boil_38 hf
    · have hf := (if_neg h_11).symm.trans hf
      refine lv_iload_n hx hb dd_MO_boil_16 rfl (lv_at hl 3 rfl) ?_
      refine lv_iconst (v := -1) hx hb dd_MO_boil_17 (by decide) ?_
      refine lv_icmp_eq (tgt := 29) hx hb dd_MO_boil_18 (by decide) (fun h_15 => ?_) (fun h_15 => ?_)
      · have hf := (if_pos h_15).symm.trans hf
        exact ww_MO_boil_29 C0 hap  ho_v0 hf hP hS (lv_sub hl [0, 1, 2, 3] rfl)
      · have hf := (if_neg h_15).symm.trans hf
        refine lv_aload_n hx hb dd_MO_boil_21 rfl (lv_at hl 0 rfl) ?_
        refine lv_iload_n hx hb dd_MO_boil_22 rfl (lv_at hl 3 rfl) ?_
        obtain ⟨r_29, x_30, c_31, hf⟩ := of_bnd hf
        refine cl_MO_94 C0 hap ho_v0 c_31 hP hS ⟨Nat.le_of_ble_eq_true rfl, Nat.le_of_ble_eq_true rfl⟩ hl.1 (Nat.le_of_ble_eq_true rfl) dd_MO_boil_23 ⟨Nat.le_refl _, Nat.le_refl _⟩ (fun H locs hP hS => ?_)
        refine lv_if_eq (tgt := 34) hx hb dd_MO_boil_26 (by decide) (fun h_32 => ?_) (fun h_32 => ?_)
        · have hf := (if_pos h_32).symm.trans hf
          refine lv_aload_n hx hb dd_MO_boil_34 rfl (lv_at hl 0 rfl) ?_
          obtain ⟨r_33, x_34, c_35, hf⟩ := of_bnd hf
          refine cl_MO_72 C0 hap ho_v0 c_35 hP hS ⟨Nat.le_of_ble_eq_true rfl, Nat.le_of_ble_eq_true rfl⟩ hl.1 (Nat.le_of_ble_eq_true rfl) dd_MO_boil_35 ⟨Nat.le_refl _, Nat.le_refl _⟩ (fun H locs hP hS => ?_)
          exact rrI C0 hP hS dd_MO_boil_38 hf
        · have hf := (if_neg h_32).symm.trans hf
          exact ww_MO_boil_29 C0 hap  ho_v0 hf hP hS (lv_sub hl [0, 1, 2, 3] rfl)
theorem cc_MO_boil {l : Launch} {E : Ev} {A : Nat → Prop} {ad : Nat → Nat} (hap : Ap ad ixM A) {x x' : St} {v0 : Nat} {v1 : Int32} {v2 : Int32} {v3 : Int32} {r : Int32} (ho_v0 : isO ixM v0 6) (hf : ff_MO_boil x v0 v1 v2 v3 = some (r, x')) : Met l yy_MO_boil (Cond.code yy_MO_boil bb_MO_boil 4 (some .int) :: gtb) rm_MO_boil (va_Pc [.ref (ad v0), .int v1, .int v2, .int v3] (PB E A ad ixM x)) (QX E ad ixM A (some (.int r)) x') 0 0 A := by
  exact enter (by decide) (Nat.le_of_ble_eq_true rfl) (fun p e s m below meth c ls C0 hP hS hl => ww_MO_boil C0 hap ho_v0 hf hP hS hl)
abbrev rm_MO_isBoiled : Room := { frames := 1, cells := 0, slots := 0, locals := 21 }
theorem dd_MO_isBoiled_0 : decode bb_MO_isBoiled 0 = .ok (.aload_n 0, 1) := by decide +kernel
theorem dd_MO_isBoiled_1 : decode bb_MO_isBoiled 1 = .ok (.bipush 25, 2) := by decide +kernel
theorem dd_MO_isBoiled_3 : decode bb_MO_isBoiled 3 = .ok (.iconst 4, 1) := by decide +kernel
theorem dd_MO_isBoiled_4 : decode bb_MO_isBoiled 4 = .ok (.iload_n 1, 1) := by decide +kernel
theorem dd_MO_isBoiled_5 : decode bb_MO_isBoiled 5 = .ok (.imul, 1) := by decide +kernel
theorem dd_MO_isBoiled_6 : decode bb_MO_isBoiled 6 = .ok (.iadd, 1) := by decide +kernel
theorem dd_MO_isBoiled_7 : decode bb_MO_isBoiled 7 = .ok (.iconst 1, 1) := by decide +kernel
theorem dd_MO_isBoiled_8 : decode bb_MO_isBoiled 8 = .ok (.iadd, 1) := by decide +kernel
theorem dd_MO_isBoiled_9 : decode bb_MO_isBoiled 9 = .ok (.invokevirtual 60, 3) := by decide +kernel
theorem dd_MO_isBoiled_12 : decode bb_MO_isBoiled 12 = .ok (.iconst (-1), 1) := by decide +kernel
theorem dd_MO_isBoiled_13 : decode bb_MO_isBoiled 13 = .ok (.if_icmp .eq 7, 3) := by decide +kernel
theorem dd_MO_isBoiled_16 : decode bb_MO_isBoiled 16 = .ok (.iconst 1, 1) := by decide +kernel
theorem dd_MO_isBoiled_17 : decode bb_MO_isBoiled 17 = .ok (.goto 4, 3) := by decide +kernel
theorem dd_MO_isBoiled_20 : decode bb_MO_isBoiled 20 = .ok (.iconst 0, 1) := by decide +kernel
theorem dd_MO_isBoiled_21 : decode bb_MO_isBoiled 21 = .ok (.ireturn, 1) := by decide +kernel
def ff_MO_isBoiled  (x : St) (v0 : Nat) (v1 : Int32) : Option (Int32 × St) := bnd (ff_MO_get x v0 ((25 + (4 * v1)) + 1)) (fun r_1 x_2 => (if r_1 = (-1) then some (0, x_2) else some (1, x_2)))
set_option maxHeartbeats 4000000 in
set_option maxRecDepth 100000 in
theorem ww_MO_isBoiled {p : Program} {l : Launch} {e : Env} {s : State} {m : MethodId} {args : Array Value} {below : List Frame} {meth : Method} {c : Code} {E : Ev} {A : Nat → Prop} {ad : Nat → Nat} {r : Int32} {x' : St} (C0 : Cx E A RMO bb_MO_isBoiled 2 (some .boolean) p s m args meth c) (hap : Ap ad ixM A)  {x : St} {v0 : Nat} {v1 : Int32} (ho_v0 : isO ixM v0 6) (hf : ff_MO_isBoiled x v0 v1 = some (r, x')) {H : Heap} {locs : List Loc} {ls : Array Slot} (hP : Wd E ad ixM x H) (hS : va_S A s.heap H locs) (hl : lv_has ls 2 [(0, .ref (ad v0)), (1, .int v1)]) : W p l e rm_MO_isBoiled s m args below meth c H locs 0 0 (MQ below (QX E ad ixM A (some (.int r)) x') args s 0 0 A) (F0 m 0 ls []) := by
  obtain ⟨hx, hb, hml, hr, hown, hts, hlk, hK⟩ := id C0
  have hf : bnd (ff_MO_get x v0 ((25 + (4 * v1)) + 1)) (fun r_1 x_2 => (if r_1 = (-1) then some (0, x_2) else some (1, x_2))) = some (r, x') := hf
  refine lv_aload_n hx hb dd_MO_isBoiled_0 rfl (lv_at hl 0 rfl) ?_
  refine lv_bipush (v := 25) hx hb dd_MO_isBoiled_1 (by decide) ?_
  refine lv_iconst (v := 4) hx hb dd_MO_isBoiled_3 (by decide) ?_
  refine lv_iload_n hx hb dd_MO_isBoiled_4 rfl (lv_at hl 1 rfl) ?_
  refine lv_imul hx hb dd_MO_isBoiled_5 ?_
  refine lv_iadd hx hb dd_MO_isBoiled_6 ?_
  refine lv_iconst (v := 1) hx hb dd_MO_isBoiled_7 (by decide) ?_
  refine lv_iadd hx hb dd_MO_isBoiled_8 ?_
  obtain ⟨r_1, x_2, c_3, hf⟩ := of_bnd hf
  refine cl_MO_60 C0 hap ho_v0 c_3 hP hS ⟨Nat.le_of_ble_eq_true rfl, Nat.le_of_ble_eq_true rfl⟩ hl.1 (Nat.le_of_ble_eq_true rfl) dd_MO_isBoiled_9 ⟨Nat.le_refl _, Nat.le_refl _⟩ (fun H locs hP hS => ?_)
  refine lv_iconst (v := -1) hx hb dd_MO_isBoiled_12 (by decide) ?_
  refine lv_icmp_eq (tgt := 20) hx hb dd_MO_isBoiled_13 (by decide) (fun h_4 => ?_) (fun h_4 => ?_)
  · have hf := (if_pos h_4).symm.trans hf
    refine lv_iconst (v := 0) hx hb dd_MO_isBoiled_20 (by decide) ?_
    exact rrZ C0 hP hS (by decide) dd_MO_isBoiled_21 hf
  · have hf := (if_neg h_4).symm.trans hf
    refine lv_iconst (v := 1) hx hb dd_MO_isBoiled_16 (by decide) ?_
    refine lv_goto (tgt := 21) hx hb dd_MO_isBoiled_17 (by decide) ?_
    exact rrZ C0 hP hS (by decide) dd_MO_isBoiled_21 hf
theorem cc_MO_isBoiled {l : Launch} {E : Ev} {A : Nat → Prop} {ad : Nat → Nat} (hap : Ap ad ixM A) {x x' : St} {v0 : Nat} {v1 : Int32} {r : Int32} (ho_v0 : isO ixM v0 6) (hf : ff_MO_isBoiled x v0 v1 = some (r, x')) : Met l yy_MO_isBoiled (Cond.code yy_MO_isBoiled bb_MO_isBoiled 2 (some .boolean) :: gtb) rm_MO_isBoiled (va_Pc [.ref (ad v0), .int v1] (PB E A ad ixM x)) (QX E ad ixM A (some (.int r)) x') 0 0 A := by
  exact enter (by decide) (Nat.le_of_ble_eq_true rfl) (fun p e s m below meth c ls C0 hP hS hl => ww_MO_isBoiled C0 hap ho_v0 hf hP hS hl)
theorem cl_MO_198 {p : Program} {l : Launch} {e : Env} {R : Room} {s : State} {m : MethodId} {args : Array Value} {below : List Frame} {meth : Method} {c : Code} {H : Heap} {locs : List Loc} {cells slots : Nat} {Q : State → Prop} {cc : ByteArray} {pc : Nat} {ls : Array Slot} {rest : List Value} {E : Ev} {A : Nat → Prop} {ad : Nat → Nat} {nL : Nat} {rt : Option FieldType} (C0 : Cx E A RMO cc nL rt p s m args meth c) (hap : Ap ad ixM A) {x x' : St} {v0 : Nat} {v1 : Int32} {r : Int32} (ho_v0 : isO ixM v0 6) (hc : ff_MO_isBoiled x v0 v1 = some (r, x')) (hP : Wd E ad ixM x H) (hS : va_S A s.heap H locs) (hR : rm_MO_isBoiled.frames + 1 ≤ R.frames ∧ 8 + (2 + 11) + rm_MO_isBoiled.locals ≤ R.locals) (hls : ls.size = nL) (hroom : (rest.map fun v => v.category).sum ≤ 8) (hdg : decode cc pc = .ok (.invokevirtual 198, 3)) (hf : cells ≤ R.cells ∧ slots ≤ R.slots) (kk : ∀ H1 locs1, Wd E ad ixM x' H1 → va_S A s.heap H1 locs1 → W p l e R s m args below meth c H1 locs1 cells slots Q (F0 m (pc + 3) ls (.int r :: rest))) : W p l e R s m args below meth c H locs cells slots Q (F0 m pc ls (.int v1 :: .ref (ad v0) :: rest)) :=
  rcV (n := 1) C0 (cc_MO_isBoiled hap ho_v0 hc) hP hS ho_v0 vcl_6 (by decide) gw_code_MO_isBoiled gw_m_MO_198 gw_inst_MO_isBoiled gw_sel_MO_isBoiled gw_ini_MO rfl rfl (by decide +kernel) rfl hR hls rfl hroom hdg hf (fun H1 locs1 a _ _ b => kk H1 locs1 a b)
abbrev rm_MO_openNow : Room := { frames := 5, cells := 0, slots := 0, locals := 113 }
theorem dd_MO_openNow_0 : decode bb_MO_openNow 0 = .ok (.aload_n 0, 1) := by decide +kernel
theorem dd_MO_openNow_1 : decode bb_MO_openNow 1 = .ok (.iconst (-1), 1) := by decide +kernel
theorem dd_MO_openNow_2 : decode bb_MO_openNow 2 = .ok (.invokevirtual 189, 3) := by decide +kernel
theorem dd_MO_openNow_5 : decode bb_MO_openNow 5 = .ok (.iconst 0, 1) := by decide +kernel
theorem dd_MO_openNow_6 : decode bb_MO_openNow 6 = .ok (.istore_n 1, 1) := by decide +kernel
theorem dd_MO_openNow_7 : decode bb_MO_openNow 7 = .ok (.iconst 0, 1) := by decide +kernel
theorem dd_MO_openNow_8 : decode bb_MO_openNow 8 = .ok (.istore_n 2, 1) := by decide +kernel
theorem dd_MO_openNow_9 : decode bb_MO_openNow 9 = .ok (.iload_n 2, 1) := by decide +kernel
theorem dd_MO_openNow_10 : decode bb_MO_openNow 10 = .ok (.aload_n 0, 1) := by decide +kernel
theorem dd_MO_openNow_11 : decode bb_MO_openNow 11 = .ok (.iconst 1, 1) := by decide +kernel
theorem dd_MO_openNow_12 : decode bb_MO_openNow 12 = .ok (.invokevirtual 60, 3) := by decide +kernel
theorem dd_MO_openNow_15 : decode bb_MO_openNow 15 = .ok (.if_icmp .ge 40, 3) := by decide +kernel
theorem dd_MO_openNow_18 : decode bb_MO_openNow 18 = .ok (.iload_n 1, 1) := by decide +kernel
theorem dd_MO_openNow_19 : decode bb_MO_openNow 19 = .ok (.aload_n 0, 1) := by decide +kernel
theorem dd_MO_openNow_20 : decode bb_MO_openNow 20 = .ok (.iload_n 2, 1) := by decide +kernel
theorem dd_MO_openNow_21 : decode bb_MO_openNow 21 = .ok (.invokevirtual 198, 3) := by decide +kernel
theorem dd_MO_openNow_24 : decode bb_MO_openNow 24 = .ok (.ifCond .eq 20, 3) := by decide +kernel
theorem dd_MO_openNow_27 : decode bb_MO_openNow 27 = .ok (.aload_n 0, 1) := by decide +kernel
theorem dd_MO_openNow_28 : decode bb_MO_openNow 28 = .ok (.iload_n 2, 1) := by decide +kernel
theorem dd_MO_openNow_29 : decode bb_MO_openNow 29 = .ok (.invokevirtual 195, 3) := by decide +kernel
theorem dd_MO_openNow_32 : decode bb_MO_openNow 32 = .ok (.aload_n 0, 1) := by decide +kernel
theorem dd_MO_openNow_33 : decode bb_MO_openNow 33 = .ok (.iconst 5, 1) := by decide +kernel
theorem dd_MO_openNow_34 : decode bb_MO_openNow 34 = .ok (.invokevirtual 60, 3) := by decide +kernel
theorem dd_MO_openNow_37 : decode bb_MO_openNow 37 = .ok (.if_icmp .le 7, 3) := by decide +kernel
theorem dd_MO_openNow_40 : decode bb_MO_openNow 40 = .ok (.iconst 0, 1) := by decide +kernel
theorem dd_MO_openNow_41 : decode bb_MO_openNow 41 = .ok (.goto 6, 3) := by decide +kernel
theorem dd_MO_openNow_44 : decode bb_MO_openNow 44 = .ok (.iconst 1, 1) := by decide +kernel
theorem dd_MO_openNow_45 : decode bb_MO_openNow 45 = .ok (.iload_n 2, 1) := by decide +kernel
theorem dd_MO_openNow_46 : decode bb_MO_openNow 46 = .ok (.ishl, 1) := by decide +kernel
theorem dd_MO_openNow_47 : decode bb_MO_openNow 47 = .ok (.ior, 1) := by decide +kernel
theorem dd_MO_openNow_48 : decode bb_MO_openNow 48 = .ok (.istore_n 1, 1) := by decide +kernel
theorem dd_MO_openNow_49 : decode bb_MO_openNow 49 = .ok (.iinc 2 1, 3) := by decide +kernel
theorem dd_MO_openNow_52 : decode bb_MO_openNow 52 = .ok (.goto (-43), 3) := by decide +kernel
theorem dd_MO_openNow_55 : decode bb_MO_openNow 55 = .ok (.iload_n 1, 1) := by decide +kernel
theorem dd_MO_openNow_56 : decode bb_MO_openNow 56 = .ok (.ireturn, 1) := by decide +kernel
def ff_MO_openNow_9  : Nat → St → Nat → Int32 → Int32 → Option (Int32 × St)
  | 0, _, _, _, _ => none
  | n + 1, x, v0, v1, v2 => bnd (ff_MO_get x v0 1) (fun r_4 x_5 => (if r_4 ≤ v2 then some (v1, x_5) else bnd (ff_MO_isBoiled x_5 v0 v2) (fun r_8 x_9 => (if r_8 = 0 then li (v1 ||| (1 <<< (v2 &&& 31))) (fun u_12 => ff_MO_openNow_9 n x_9 v0 u_12 (v2 + 1)) else bnd (ff_MO_opensBy x_9 v0 v2) (fun r_13 x_14 => bnd (ff_MO_get x_14 v0 5) (fun r_16 x_17 => (if r_13 ≤ r_16 then li (v1 ||| (1 <<< (v2 &&& 31))) (fun u_20 => ff_MO_openNow_9 n x_17 v0 u_20 (v2 + 1)) else ff_MO_openNow_9 n x_17 v0 (v1 ||| 0) (v2 + 1))))))))
def ff_MO_openNow  (x : St) (v0 : Nat) : Option (Int32 × St) := bnd (ff_MO_findGriefs x v0 (-1)) (fun _ x_2 => ff_MO_openNow_9 FU x_2 v0 0 0)
set_option maxHeartbeats 4000000 in
set_option maxRecDepth 100000 in
theorem ww_MO_openNow_9 {p : Program} {l : Launch} {e : Env} {s : State} {m : MethodId} {args : Array Value} {below : List Frame} {meth : Method} {c : Code} {E : Ev} {A : Nat → Prop} {ad : Nat → Nat} {r : Int32} {x' : St} (C0 : Cx E A RMO bb_MO_openNow 3 (some .int) p s m args meth c) (hap : Ap ad ixM A)  : ∀ (n : Nat), ∀ (x : St) (v0 : Nat) (v1 : Int32) (v2 : Int32), (isO ixM v0 6) → ff_MO_openNow_9 n x v0 v1 v2 = some (r, x') → ∀ (H : Heap) (locs : List Loc) (ls : Array Slot), Wd E ad ixM x H → va_S A s.heap H locs → lv_has ls 3 [(0, .ref (ad v0)), (1, .int v1), (2, .int v2)] → W p l e rm_MO_openNow s m args below meth c H locs 0 0 (MQ below (QX E ad ixM A (some (.int r)) x') args s 0 0 A) (F0 m 9 ls []) := by
  obtain ⟨hx, hb, hml, hr, hown, hts, hlk, hK⟩ := id C0
  intro n
  induction n with
  | zero => intro x v0 v1 v2 ho_v0 hf; exact of_no hf
  | succ n ih =>
    intro x v0 v1 v2 ho_v0 hf H locs ls hP hS hl
    have hf : bnd (ff_MO_get x v0 1) (fun r_4 x_5 => (if r_4 ≤ v2 then some (v1, x_5) else bnd (ff_MO_isBoiled x_5 v0 v2) (fun r_8 x_9 => (if r_8 = 0 then li (v1 ||| (1 <<< (v2 &&& 31))) (fun u_12 => ff_MO_openNow_9 n x_9 v0 u_12 (v2 + 1)) else bnd (ff_MO_opensBy x_9 v0 v2) (fun r_13 x_14 => bnd (ff_MO_get x_14 v0 5) (fun r_16 x_17 => (if r_13 ≤ r_16 then li (v1 ||| (1 <<< (v2 &&& 31))) (fun u_20 => ff_MO_openNow_9 n x_17 v0 u_20 (v2 + 1)) else ff_MO_openNow_9 n x_17 v0 (v1 ||| 0) (v2 + 1)))))))) = some (r, x') := hf
    refine lv_iload_n hx hb dd_MO_openNow_9 rfl (lv_at hl 2 rfl) ?_
    refine lv_aload_n hx hb dd_MO_openNow_10 rfl (lv_at hl 0 rfl) ?_
    refine lv_iconst (v := 1) hx hb dd_MO_openNow_11 (by decide) ?_
    obtain ⟨r_4, x_5, c_6, hf⟩ := of_bnd hf
    refine cl_MO_60 C0 hap ho_v0 c_6 hP hS ⟨Nat.le_of_ble_eq_true rfl, Nat.le_of_ble_eq_true rfl⟩ hl.1 (Nat.le_of_ble_eq_true rfl) dd_MO_openNow_12 ⟨Nat.le_refl _, Nat.le_refl _⟩ (fun H locs hP hS => ?_)
    refine lv_icmp_ge (tgt := 55) hx hb dd_MO_openNow_15 (by decide) (fun h_7 => ?_) (fun h_7 => ?_)
    · have hf := (if_pos h_7).symm.trans hf
      refine lv_iload_n hx hb dd_MO_openNow_55 rfl (lv_at hl 1 rfl) ?_
      exact rrI C0 hP hS dd_MO_openNow_56 hf
    · have hf := (if_neg h_7).symm.trans hf
      refine lv_iload_n hx hb dd_MO_openNow_18 rfl (lv_at hl 1 rfl) ?_
      refine lv_aload_n hx hb dd_MO_openNow_19 rfl (lv_at hl 0 rfl) ?_
      refine lv_iload_n hx hb dd_MO_openNow_20 rfl (lv_at hl 2 rfl) ?_
      obtain ⟨r_8, x_9, c_10, hf⟩ := of_bnd hf
      refine cl_MO_198 C0 hap ho_v0 c_10 hP hS ⟨Nat.le_of_ble_eq_true rfl, Nat.le_of_ble_eq_true rfl⟩ hl.1 (Nat.le_of_ble_eq_true rfl) dd_MO_openNow_21 ⟨Nat.le_refl _, Nat.le_refl _⟩ (fun H locs hP hS => ?_)
      refine lv_if_eq (tgt := 44) hx hb dd_MO_openNow_24 (by decide) (fun h_11 => ?_) (fun h_11 => ?_)
      · have hf := (if_pos h_11).symm.trans hf
        refine lv_iconst (v := 1) hx hb dd_MO_openNow_44 (by decide) ?_
        refine lv_iload_n hx hb dd_MO_openNow_45 rfl (lv_at hl 2 rfl) ?_
        refine lv_ishl hx hb dd_MO_openNow_46 ?_
        refine lv_ior hx hb dd_MO_openNow_47 ?_
        obtain ⟨u_12, eu_12, hf⟩ := of_li hf
        refine tpi eu_12 ?_
        refine lv_istore_n (lv' := [(1, .int u_12), (0, .ref (ad v0)), (2, .int v2)]) hx hb dd_MO_openNow_48 rfl hl (by decide) rfl (fun ls hl => ?_)
        refine lv_iinc (v := v2 + 1) (lv' := [(2, .int (v2 + 1)), (1, .int u_12), (0, .ref (ad v0))]) hx hb dd_MO_openNow_49 hl (k := 2) rfl rfl (by decide) rfl (fun ls hl => ?_)
        refine lv_goto (tgt := 9) hx hb dd_MO_openNow_52 (by decide) ?_
        exact ih x_9 v0 u_12 (v2 + 1) ho_v0 hf _ _ _ hP hS (lv_sub hl [2, 1, 0] rfl)
      · have hf := (if_neg h_11).symm.trans hf
        refine lv_aload_n hx hb dd_MO_openNow_27 rfl (lv_at hl 0 rfl) ?_
        refine lv_iload_n hx hb dd_MO_openNow_28 rfl (lv_at hl 2 rfl) ?_
        obtain ⟨r_13, x_14, c_15, hf⟩ := of_bnd hf
        refine cl_MO_195 C0 hap ho_v0 c_15 hP hS ⟨Nat.le_of_ble_eq_true rfl, Nat.le_of_ble_eq_true rfl⟩ hl.1 (Nat.le_of_ble_eq_true rfl) dd_MO_openNow_29 ⟨Nat.le_refl _, Nat.le_refl _⟩ (fun H locs hP hS => ?_)
        refine lv_aload_n hx hb dd_MO_openNow_32 rfl (lv_at hl 0 rfl) ?_
        refine lv_iconst (v := 5) hx hb dd_MO_openNow_33 (by decide) ?_
        obtain ⟨r_16, x_17, c_18, hf⟩ := of_bnd hf
        refine cl_MO_60 C0 hap ho_v0 c_18 hP hS ⟨Nat.le_of_ble_eq_true rfl, Nat.le_of_ble_eq_true rfl⟩ hl.1 (Nat.le_of_ble_eq_true rfl) dd_MO_openNow_34 ⟨Nat.le_refl _, Nat.le_refl _⟩ (fun H locs hP hS => ?_)
        refine lv_icmp_le (tgt := 44) hx hb dd_MO_openNow_37 (by decide) (fun h_19 => ?_) (fun h_19 => ?_)
        · have hf := (if_pos h_19).symm.trans hf
          refine lv_iconst (v := 1) hx hb dd_MO_openNow_44 (by decide) ?_
          refine lv_iload_n hx hb dd_MO_openNow_45 rfl (lv_at hl 2 rfl) ?_
          refine lv_ishl hx hb dd_MO_openNow_46 ?_
          refine lv_ior hx hb dd_MO_openNow_47 ?_
          obtain ⟨u_20, eu_20, hf⟩ := of_li hf
          refine tpi eu_20 ?_
          refine lv_istore_n (lv' := [(1, .int u_20), (0, .ref (ad v0)), (2, .int v2)]) hx hb dd_MO_openNow_48 rfl hl (by decide) rfl (fun ls hl => ?_)
          refine lv_iinc (v := v2 + 1) (lv' := [(2, .int (v2 + 1)), (1, .int u_20), (0, .ref (ad v0))]) hx hb dd_MO_openNow_49 hl (k := 2) rfl rfl (by decide) rfl (fun ls hl => ?_)
          refine lv_goto (tgt := 9) hx hb dd_MO_openNow_52 (by decide) ?_
          exact ih x_17 v0 u_20 (v2 + 1) ho_v0 hf _ _ _ hP hS (lv_sub hl [2, 1, 0] rfl)
        · have hf := (if_neg h_19).symm.trans hf
          refine lv_iconst (v := 0) hx hb dd_MO_openNow_40 (by decide) ?_
          refine lv_goto (tgt := 47) hx hb dd_MO_openNow_41 (by decide) ?_
          refine lv_ior hx hb dd_MO_openNow_47 ?_
          refine lv_istore_n (lv' := [(1, .int (v1 ||| 0)), (0, .ref (ad v0)), (2, .int v2)]) hx hb dd_MO_openNow_48 rfl hl (by decide) rfl (fun ls hl => ?_)
          refine lv_iinc (v := v2 + 1) (lv' := [(2, .int (v2 + 1)), (1, .int (v1 ||| 0)), (0, .ref (ad v0))]) hx hb dd_MO_openNow_49 hl (k := 2) rfl rfl (by decide) rfl (fun ls hl => ?_)
          refine lv_goto (tgt := 9) hx hb dd_MO_openNow_52 (by decide) ?_
          exact ih x_17 v0 (v1 ||| 0) (v2 + 1) ho_v0 hf _ _ _ hP hS (lv_sub hl [2, 1, 0] rfl)
set_option maxHeartbeats 4000000 in
set_option maxRecDepth 100000 in
theorem ww_MO_openNow {p : Program} {l : Launch} {e : Env} {s : State} {m : MethodId} {args : Array Value} {below : List Frame} {meth : Method} {c : Code} {E : Ev} {A : Nat → Prop} {ad : Nat → Nat} {r : Int32} {x' : St} (C0 : Cx E A RMO bb_MO_openNow 3 (some .int) p s m args meth c) (hap : Ap ad ixM A)  {x : St} {v0 : Nat} (ho_v0 : isO ixM v0 6) (hf : ff_MO_openNow x v0 = some (r, x')) {H : Heap} {locs : List Loc} {ls : Array Slot} (hP : Wd E ad ixM x H) (hS : va_S A s.heap H locs) (hl : lv_has ls 3 [(0, .ref (ad v0))]) : W p l e rm_MO_openNow s m args below meth c H locs 0 0 (MQ below (QX E ad ixM A (some (.int r)) x') args s 0 0 A) (F0 m 0 ls []) := by
  obtain ⟨hx, hb, hml, hr, hown, hts, hlk, hK⟩ := id C0
  have hf : bnd (ff_MO_findGriefs x v0 (-1)) (fun _ x_2 => ff_MO_openNow_9 FU x_2 v0 0 0) = some (r, x') := hf
  refine lv_aload_n hx hb dd_MO_openNow_0 rfl (lv_at hl 0 rfl) ?_
  refine lv_iconst (v := -1) hx hb dd_MO_openNow_1 (by decide) ?_
  obtain ⟨_, x_2, c_3, hf⟩ := of_bnd hf
  refine cl_MO_189 C0 hap ho_v0 c_3 hP hS ⟨Nat.le_of_ble_eq_true rfl, Nat.le_of_ble_eq_true rfl⟩ hl.1 (Nat.le_of_ble_eq_true rfl) dd_MO_openNow_2 ⟨Nat.le_refl _, Nat.le_refl _⟩ (fun H locs hP hS => ?_)
  refine lv_iconst (v := 0) hx hb dd_MO_openNow_5 (by decide) ?_
  refine lv_istore_n (lv' := [(1, .int 0), (0, .ref (ad v0))]) hx hb dd_MO_openNow_6 rfl hl (by decide) rfl (fun ls hl => ?_)
  refine lv_iconst (v := 0) hx hb dd_MO_openNow_7 (by decide) ?_
  refine lv_istore_n (lv' := [(2, .int 0), (1, .int 0), (0, .ref (ad v0))]) hx hb dd_MO_openNow_8 rfl hl (by decide) rfl (fun ls hl => ?_)
  exact ww_MO_openNow_9 C0 hap  FU x_2 v0 0 0 ho_v0 hf _ _ _ hP hS (lv_sub hl [2, 1, 0] rfl)
theorem cc_MO_openNow {l : Launch} {E : Ev} {A : Nat → Prop} {ad : Nat → Nat} (hap : Ap ad ixM A) {x x' : St} {v0 : Nat} {r : Int32} (ho_v0 : isO ixM v0 6) (hf : ff_MO_openNow x v0 = some (r, x')) : Met l yy_MO_openNow (Cond.code yy_MO_openNow bb_MO_openNow 3 (some .int) :: gtb) rm_MO_openNow (va_Pc [.ref (ad v0)] (PB E A ad ixM x)) (QX E ad ixM A (some (.int r)) x') 0 0 A := by
  exact enter (by decide) (Nat.le_of_ble_eq_true rfl) (fun p e s m below meth c ls C0 hP hS hl => ww_MO_openNow C0 hap ho_v0 hf hP hS hl)
theorem cl_MO_115 {p : Program} {l : Launch} {e : Env} {R : Room} {s : State} {m : MethodId} {args : Array Value} {below : List Frame} {meth : Method} {c : Code} {H : Heap} {locs : List Loc} {cells slots : Nat} {Q : State → Prop} {cc : ByteArray} {pc : Nat} {ls : Array Slot} {rest : List Value} {E : Ev} {A : Nat → Prop} {ad : Nat → Nat} {nL : Nat} {rt : Option FieldType} (C0 : Cx E A RMO cc nL rt p s m args meth c) (hap : Ap ad ixM A) {x x' : St} {v0 : Nat} {r : Int32} (ho_v0 : isO ixM v0 6) (hc : ff_MO_openNow x v0 = some (r, x')) (hP : Wd E ad ixM x H) (hS : va_S A s.heap H locs) (hR : rm_MO_openNow.frames + 1 ≤ R.frames ∧ 8 + (3 + 11) + rm_MO_openNow.locals ≤ R.locals) (hls : ls.size = nL) (hroom : (rest.map fun v => v.category).sum ≤ 8) (hdg : decode cc pc = .ok (.invokevirtual 115, 3)) (hf : cells ≤ R.cells ∧ slots ≤ R.slots) (kk : ∀ H1 locs1, Wd E ad ixM x' H1 → va_S A s.heap H1 locs1 → W p l e R s m args below meth c H1 locs1 cells slots Q (F0 m (pc + 3) ls (.int r :: rest))) : W p l e R s m args below meth c H locs cells slots Q (F0 m pc ls (.ref (ad v0) :: rest)) :=
  rcV (n := 0) C0 (cc_MO_openNow hap ho_v0 hc) hP hS ho_v0 vcl_6 (by decide) gw_code_MO_openNow gw_m_MO_115 gw_inst_MO_openNow gw_sel_MO_openNow gw_ini_MO rfl rfl (by decide +kernel) rfl hR hls rfl hroom hdg hf (fun H1 locs1 a _ _ b => kk H1 locs1 a b)
abbrev rm_MO_day : Room := { frames := 6, cells := 0, slots := 0, locals := 135 }
theorem dd_MO_day_0 : decode bb_MO_day 0 = .ok (.iload_n 1, 1) := by decide +kernel
theorem dd_MO_day_1 : decode bb_MO_day 1 = .ok (.aload_n 0, 1) := by decide +kernel
theorem dd_MO_day_2 : decode bb_MO_day 2 = .ok (.iconst 5, 1) := by decide +kernel
theorem dd_MO_day_3 : decode bb_MO_day 3 = .ok (.invokevirtual 60, 3) := by decide +kernel
theorem dd_MO_day_6 : decode bb_MO_day 6 = .ok (.bipush 99, 2) := by decide +kernel
theorem dd_MO_day_8 : decode bb_MO_day 8 = .ok (.invokestatic 64, 3) := by decide +kernel
theorem dd_MO_day_11 : decode bb_MO_day 11 = .ok (.ifCond .ne 8, 3) := by decide +kernel
theorem dd_MO_day_14 : decode bb_MO_day 14 = .ok (.aload_n 0, 1) := by decide +kernel
theorem dd_MO_day_15 : decode bb_MO_day 15 = .ok (.invokevirtual 72, 3) := by decide +kernel
theorem dd_MO_day_18 : decode bb_MO_day 18 = .ok (.ireturn, 1) := by decide +kernel
theorem dd_MO_day_19 : decode bb_MO_day 19 = .ok (.aload_n 0, 1) := by decide +kernel
theorem dd_MO_day_20 : decode bb_MO_day 20 = .ok (.invokevirtual 106, 3) := by decide +kernel
theorem dd_MO_day_23 : decode bb_MO_day 23 = .ok (.aload_n 0, 1) := by decide +kernel
theorem dd_MO_day_24 : decode bb_MO_day 24 = .ok (.iconst 5, 1) := by decide +kernel
theorem dd_MO_day_25 : decode bb_MO_day 25 = .ok (.iload_n 1, 1) := by decide +kernel
theorem dd_MO_day_26 : decode bb_MO_day 26 = .ok (.invokevirtual 68, 3) := by decide +kernel
theorem dd_MO_day_29 : decode bb_MO_day 29 = .ok (.aload_n 0, 1) := by decide +kernel
theorem dd_MO_day_30 : decode bb_MO_day 30 = .ok (.invokevirtual 115, 3) := by decide +kernel
theorem dd_MO_day_33 : decode bb_MO_day 33 = .ok (.istore_n 2, 1) := by decide +kernel
theorem dd_MO_day_34 : decode bb_MO_day 34 = .ok (.iconst 0, 1) := by decide +kernel
theorem dd_MO_day_35 : decode bb_MO_day 35 = .ok (.istore_n 3, 1) := by decide +kernel
theorem dd_MO_day_36 : decode bb_MO_day 36 = .ok (.iconst 0, 1) := by decide +kernel
theorem dd_MO_day_37 : decode bb_MO_day 37 = .ok (.istore 4, 2) := by decide +kernel
theorem dd_MO_day_39 : decode bb_MO_day 39 = .ok (.iload 4, 2) := by decide +kernel
theorem dd_MO_day_41 : decode bb_MO_day 41 = .ok (.bipush 6, 2) := by decide +kernel
theorem dd_MO_day_43 : decode bb_MO_day 43 = .ok (.if_icmp .ge 18, 3) := by decide +kernel
theorem dd_MO_day_46 : decode bb_MO_day 46 = .ok (.iload_n 3, 1) := by decide +kernel
theorem dd_MO_day_47 : decode bb_MO_day 47 = .ok (.iload_n 2, 1) := by decide +kernel
theorem dd_MO_day_48 : decode bb_MO_day 48 = .ok (.iload 4, 2) := by decide +kernel
theorem dd_MO_day_50 : decode bb_MO_day 50 = .ok (.ishr, 1) := by decide +kernel
theorem dd_MO_day_51 : decode bb_MO_day 51 = .ok (.iconst 1, 1) := by decide +kernel
theorem dd_MO_day_52 : decode bb_MO_day 52 = .ok (.iand, 1) := by decide +kernel
theorem dd_MO_day_53 : decode bb_MO_day 53 = .ok (.iadd, 1) := by decide +kernel
theorem dd_MO_day_54 : decode bb_MO_day 54 = .ok (.istore_n 3, 1) := by decide +kernel
theorem dd_MO_day_55 : decode bb_MO_day 55 = .ok (.iinc 4 1, 3) := by decide +kernel
theorem dd_MO_day_58 : decode bb_MO_day 58 = .ok (.goto (-19), 3) := by decide +kernel
theorem dd_MO_day_61 : decode bb_MO_day 61 = .ok (.iload_n 3, 1) := by decide +kernel
theorem dd_MO_day_62 : decode bb_MO_day 62 = .ok (.ireturn, 1) := by decide +kernel
def ff_MO_day_39  : Nat → St → Int32 → Int32 → Int32 → Option (Int32 × St)
  | 0, _, _, _, _ => none
  | n + 1, x, v2, v3, v4 => (if 6 ≤ v4 then some (v3, x) else li (v3 + ((v2 >>> (v4 &&& 31)) &&& 1)) (fun u_18 => ff_MO_day_39 n x v2 u_18 (v4 + 1)))
def ff_MO_day  (x : St) (v0 : Nat) (v1 : Int32) : Option (Int32 × St) := bnd (ff_MO_get x v0 5) (fun r_1 x_2 => bnd (ff_MO_in x_2 v1 r_1 99) (fun r_4 x_5 => (if r_4 = 0 then bnd (ff_MO_bad x_5 v0) (fun r_19 x_20 => some (r_19, x_20)) else bnd (ff_MO_know x_5 v0) (fun _ x_9 => bnd (ff_MO_set x_9 v0 5 v1) (fun _ x_12 => bnd (ff_MO_openNow x_12 v0) (fun r_14 x_15 => ff_MO_day_39 FU x_15 r_14 0 0))))))
set_option maxHeartbeats 4000000 in
set_option maxRecDepth 100000 in
theorem ww_MO_day_39 {p : Program} {l : Launch} {e : Env} {s : State} {m : MethodId} {args : Array Value} {below : List Frame} {meth : Method} {c : Code} {E : Ev} {A : Nat → Prop} {ad : Nat → Nat} {r : Int32} {x' : St} (C0 : Cx E A RMO bb_MO_day 5 (some .int) p s m args meth c) (hap : Ap ad ixM A)  : ∀ (n : Nat), ∀ (x : St) (v2 : Int32) (v3 : Int32) (v4 : Int32), ff_MO_day_39 n x v2 v3 v4 = some (r, x') → ∀ (H : Heap) (locs : List Loc) (ls : Array Slot), Wd E ad ixM x H → va_S A s.heap H locs → lv_has ls 5 [(2, .int v2), (3, .int v3), (4, .int v4)] → W p l e rm_MO_day s m args below meth c H locs 0 0 (MQ below (QX E ad ixM A (some (.int r)) x') args s 0 0 A) (F0 m 39 ls []) := by
  obtain ⟨hx, hb, hml, hr, hown, hts, hlk, hK⟩ := id C0
  intro n
  induction n with
  | zero => intro x v2 v3 v4  hf; exact of_no hf
  | succ n ih =>
    intro x v2 v3 v4  hf H locs ls hP hS hl
    have hf : (if 6 ≤ v4 then some (v3, x) else li (v3 + ((v2 >>> (v4 &&& 31)) &&& 1)) (fun u_18 => ff_MO_day_39 n x v2 u_18 (v4 + 1))) = some (r, x') := hf
    refine lv_iload hx hb dd_MO_day_39 (lv_at hl 2 rfl) ?_
    refine lv_bipush (v := 6) hx hb dd_MO_day_41 (by decide) ?_
    refine lv_icmp_ge (tgt := 61) hx hb dd_MO_day_43 (by decide) (fun h_17 => ?_) (fun h_17 => ?_)
    · have hf := (if_pos h_17).symm.trans hf
      refine lv_iload_n hx hb dd_MO_day_61 rfl (lv_at hl 1 rfl) ?_
      exact rrI C0 hP hS dd_MO_day_62 hf
    · have hf := (if_neg h_17).symm.trans hf
      refine lv_iload_n hx hb dd_MO_day_46 rfl (lv_at hl 1 rfl) ?_
      refine lv_iload_n hx hb dd_MO_day_47 rfl (lv_at hl 0 rfl) ?_
      refine lv_iload hx hb dd_MO_day_48 (lv_at hl 2 rfl) ?_
      refine lv_ishr hx hb dd_MO_day_50 ?_
      refine lv_iconst (v := 1) hx hb dd_MO_day_51 (by decide) ?_
      refine lv_iand hx hb dd_MO_day_52 ?_
      refine lv_iadd hx hb dd_MO_day_53 ?_
      obtain ⟨u_18, eu_18, hf⟩ := of_li hf
      refine tpi eu_18 ?_
      refine lv_istore_n (lv' := [(3, .int u_18), (2, .int v2), (4, .int v4)]) hx hb dd_MO_day_54 rfl hl (by decide) rfl (fun ls hl => ?_)
      refine lv_iinc (v := v4 + 1) (lv' := [(4, .int (v4 + 1)), (3, .int u_18), (2, .int v2)]) hx hb dd_MO_day_55 hl (k := 2) rfl rfl (by decide) rfl (fun ls hl => ?_)
      refine lv_goto (tgt := 39) hx hb dd_MO_day_58 (by decide) ?_
      exact ih x v2 u_18 (v4 + 1)  hf _ _ _ hP hS (lv_sub hl [2, 1, 0] rfl)
set_option maxHeartbeats 4000000 in
set_option maxRecDepth 100000 in
theorem ww_MO_day {p : Program} {l : Launch} {e : Env} {s : State} {m : MethodId} {args : Array Value} {below : List Frame} {meth : Method} {c : Code} {E : Ev} {A : Nat → Prop} {ad : Nat → Nat} {r : Int32} {x' : St} (C0 : Cx E A RMO bb_MO_day 5 (some .int) p s m args meth c) (hap : Ap ad ixM A)  {x : St} {v0 : Nat} {v1 : Int32} (ho_v0 : isO ixM v0 6) (hf : ff_MO_day x v0 v1 = some (r, x')) {H : Heap} {locs : List Loc} {ls : Array Slot} (hP : Wd E ad ixM x H) (hS : va_S A s.heap H locs) (hl : lv_has ls 5 [(0, .ref (ad v0)), (1, .int v1)]) : W p l e rm_MO_day s m args below meth c H locs 0 0 (MQ below (QX E ad ixM A (some (.int r)) x') args s 0 0 A) (F0 m 0 ls []) := by
  obtain ⟨hx, hb, hml, hr, hown, hts, hlk, hK⟩ := id C0
  have hf : bnd (ff_MO_get x v0 5) (fun r_1 x_2 => bnd (ff_MO_in x_2 v1 r_1 99) (fun r_4 x_5 => (if r_4 = 0 then bnd (ff_MO_bad x_5 v0) (fun r_19 x_20 => some (r_19, x_20)) else bnd (ff_MO_know x_5 v0) (fun _ x_9 => bnd (ff_MO_set x_9 v0 5 v1) (fun _ x_12 => bnd (ff_MO_openNow x_12 v0) (fun r_14 x_15 => ff_MO_day_39 FU x_15 r_14 0 0)))))) = some (r, x') := hf
  refine lv_iload_n hx hb dd_MO_day_0 rfl (lv_at hl 1 rfl) ?_
  refine lv_aload_n hx hb dd_MO_day_1 rfl (lv_at hl 0 rfl) ?_
  refine lv_iconst (v := 5) hx hb dd_MO_day_2 (by decide) ?_
  obtain ⟨r_1, x_2, c_3, hf⟩ := of_bnd hf
  refine cl_MO_60 C0 hap ho_v0 c_3 hP hS ⟨Nat.le_of_ble_eq_true rfl, Nat.le_of_ble_eq_true rfl⟩ hl.1 (Nat.le_of_ble_eq_true rfl) dd_MO_day_3 ⟨Nat.le_refl _, Nat.le_refl _⟩ (fun H locs hP hS => ?_)
  refine lv_bipush (v := 99) hx hb dd_MO_day_6 (by decide) ?_
  obtain ⟨r_4, x_5, c_6, hf⟩ := of_bnd hf
  refine cl_MO_64 C0 hap  c_6 hP hS ⟨Nat.le_of_ble_eq_true rfl, Nat.le_of_ble_eq_true rfl⟩ hl.1 (Nat.le_of_ble_eq_true rfl) dd_MO_day_8 ⟨Nat.le_refl _, Nat.le_refl _⟩ (fun H locs hP hS => ?_)
  refine lv_if_ne (tgt := 19) hx hb dd_MO_day_11 (by decide) (fun h_7 => ?_) (fun h_7 => ?_)
  · have hf := (if_neg h_7).symm.trans hf
    refine lv_aload_n hx hb dd_MO_day_19 rfl (lv_at hl 0 rfl) ?_
    obtain ⟨_, x_9, c_10, hf⟩ := of_bnd hf
    refine cl_MO_106 C0 hap ho_v0 c_10 hP hS ⟨Nat.le_of_ble_eq_true rfl, Nat.le_of_ble_eq_true rfl⟩ hl.1 (Nat.le_of_ble_eq_true rfl) dd_MO_day_20 ⟨Nat.le_refl _, Nat.le_refl _⟩ (fun H locs hP hS => ?_)
    refine lv_aload_n hx hb dd_MO_day_23 rfl (lv_at hl 0 rfl) ?_
    refine lv_iconst (v := 5) hx hb dd_MO_day_24 (by decide) ?_
    refine lv_iload_n hx hb dd_MO_day_25 rfl (lv_at hl 1 rfl) ?_
    obtain ⟨_, x_12, c_13, hf⟩ := of_bnd hf
    refine cl_MO_68 C0 hap ho_v0 c_13 hP hS ⟨Nat.le_of_ble_eq_true rfl, Nat.le_of_ble_eq_true rfl⟩ hl.1 (Nat.le_of_ble_eq_true rfl) dd_MO_day_26 ⟨Nat.le_refl _, Nat.le_refl _⟩ (fun H locs hP hS => ?_)
    refine lv_aload_n hx hb dd_MO_day_29 rfl (lv_at hl 0 rfl) ?_
    obtain ⟨r_14, x_15, c_16, hf⟩ := of_bnd hf
    refine cl_MO_115 C0 hap ho_v0 c_16 hP hS ⟨Nat.le_of_ble_eq_true rfl, Nat.le_of_ble_eq_true rfl⟩ hl.1 (Nat.le_of_ble_eq_true rfl) dd_MO_day_30 ⟨Nat.le_refl _, Nat.le_refl _⟩ (fun H locs hP hS => ?_)
    refine lv_istore_n (lv' := [(2, .int r_14), (0, .ref (ad v0)), (1, .int v1)]) hx hb dd_MO_day_33 rfl hl (by decide) rfl (fun ls hl => ?_)
    refine lv_iconst (v := 0) hx hb dd_MO_day_34 (by decide) ?_
    refine lv_istore_n (lv' := [(3, .int 0), (2, .int r_14), (0, .ref (ad v0)), (1, .int v1)]) hx hb dd_MO_day_35 rfl hl (by decide) rfl (fun ls hl => ?_)
    refine lv_iconst (v := 0) hx hb dd_MO_day_36 (by decide) ?_
    refine lv_istore (lv' := [(4, .int 0), (3, .int 0), (2, .int r_14), (0, .ref (ad v0)), (1, .int v1)]) hx hb dd_MO_day_37 hl (by decide) rfl (fun ls hl => ?_)
    exact ww_MO_day_39 C0 hap  FU x_15 r_14 0 0  hf _ _ _ hP hS (lv_sub hl [2, 1, 0] rfl)
  · have hf := (if_pos h_7).symm.trans hf
    refine lv_aload_n hx hb dd_MO_day_14 rfl (lv_at hl 0 rfl) ?_
    obtain ⟨r_19, x_20, c_21, hf⟩ := of_bnd hf
    refine cl_MO_72 C0 hap ho_v0 c_21 hP hS ⟨Nat.le_of_ble_eq_true rfl, Nat.le_of_ble_eq_true rfl⟩ hl.1 (Nat.le_of_ble_eq_true rfl) dd_MO_day_15 ⟨Nat.le_refl _, Nat.le_refl _⟩ (fun H locs hP hS => ?_)
    exact rrI C0 hP hS dd_MO_day_18 hf
theorem cc_MO_day {l : Launch} {E : Ev} {A : Nat → Prop} {ad : Nat → Nat} (hap : Ap ad ixM A) {x x' : St} {v0 : Nat} {v1 : Int32} {r : Int32} (ho_v0 : isO ixM v0 6) (hf : ff_MO_day x v0 v1 = some (r, x')) : Met l yy_MO_day (Cond.code yy_MO_day bb_MO_day 5 (some .int) :: gtb) rm_MO_day (va_Pc [.ref (ad v0), .int v1] (PB E A ad ixM x)) (QX E ad ixM A (some (.int r)) x') 0 0 A := by
  exact enter (by decide) (Nat.le_of_ble_eq_true rfl) (fun p e s m below meth c ls C0 hP hS hl => ww_MO_day C0 hap ho_v0 hf hP hS hl)
abbrev rm_MO_type : Room := { frames := 1, cells := 0, slots := 0, locals := 22 }
theorem dd_MO_type_0 : decode bb_MO_type 0 = .ok (.iload_n 3, 1) := by decide +kernel
theorem dd_MO_type_1 : decode bb_MO_type 1 = .ok (.iconst 1, 1) := by decide +kernel
theorem dd_MO_type_2 : decode bb_MO_type 2 = .ok (.bipush 8, 2) := by decide +kernel
theorem dd_MO_type_4 : decode bb_MO_type 4 = .ok (.invokestatic 64, 3) := by decide +kernel
theorem dd_MO_type_7 : decode bb_MO_type 7 = .ok (.ifCond .ne 8, 3) := by decide +kernel
theorem dd_MO_type_10 : decode bb_MO_type 10 = .ok (.aload_n 0, 1) := by decide +kernel
theorem dd_MO_type_11 : decode bb_MO_type 11 = .ok (.invokevirtual 72, 3) := by decide +kernel
theorem dd_MO_type_14 : decode bb_MO_type 14 = .ok (.ireturn, 1) := by decide +kernel
theorem dd_MO_type_15 : decode bb_MO_type 15 = .ok (.aload_n 0, 1) := by decide +kernel
theorem dd_MO_type_16 : decode bb_MO_type 16 = .ok (.getfield 118, 3) := by decide +kernel
theorem dd_MO_type_19 : decode bb_MO_type 19 = .ok (.iload_n 3, 1) := by decide +kernel
theorem dd_MO_type_20 : decode bb_MO_type 20 = .ok (.iadd, 1) := by decide +kernel
theorem dd_MO_type_21 : decode bb_MO_type 21 = .ok (.sipush 250, 3) := by decide +kernel
theorem dd_MO_type_24 : decode bb_MO_type 24 = .ok (.if_icmp .le 8, 3) := by decide +kernel
theorem dd_MO_type_27 : decode bb_MO_type 27 = .ok (.aload_n 0, 1) := by decide +kernel
theorem dd_MO_type_28 : decode bb_MO_type 28 = .ok (.invokevirtual 76, 3) := by decide +kernel
theorem dd_MO_type_31 : decode bb_MO_type 31 = .ok (.ireturn, 1) := by decide +kernel
theorem dd_MO_type_32 : decode bb_MO_type 32 = .ok (.iload_n 3, 1) := by decide +kernel
theorem dd_MO_type_33 : decode bb_MO_type 33 = .ok (.iconst 1, 1) := by decide +kernel
theorem dd_MO_type_34 : decode bb_MO_type 34 = .ok (.isub, 1) := by decide +kernel
theorem dd_MO_type_35 : decode bb_MO_type 35 = .ok (.istore 4, 2) := by decide +kernel
theorem dd_MO_type_37 : decode bb_MO_type 37 = .ok (.iload 4, 2) := by decide +kernel
theorem dd_MO_type_39 : decode bb_MO_type 39 = .ok (.ifCond .lt 41, 3) := by decide +kernel
theorem dd_MO_type_42 : decode bb_MO_type 42 = .ok (.aload_n 0, 1) := by decide +kernel
theorem dd_MO_type_43 : decode bb_MO_type 43 = .ok (.getfield 20, 3) := by decide +kernel
theorem dd_MO_type_46 : decode bb_MO_type 46 = .ok (.aload_n 0, 1) := by decide +kernel
theorem dd_MO_type_47 : decode bb_MO_type 47 = .ok (.getfield 118, 3) := by decide +kernel
theorem dd_MO_type_50 : decode bb_MO_type 50 = .ok (.lload_n 1, 1) := by decide +kernel
theorem dd_MO_type_51 : decode bb_MO_type 51 = .ok (.bipush 8, 2) := by decide +kernel
theorem dd_MO_type_53 : decode bb_MO_type 53 = .ok (.iload 4, 2) := by decide +kernel
theorem dd_MO_type_55 : decode bb_MO_type 55 = .ok (.imul, 1) := by decide +kernel
theorem dd_MO_type_56 : decode bb_MO_type 56 = .ok (.lshr, 1) := by decide +kernel
theorem dd_MO_type_57 : decode bb_MO_type 57 = .ok (.ldc2_w 121, 3) := by decide +kernel
theorem dd_MO_type_60 : decode bb_MO_type 60 = .ok (.land, 1) := by decide +kernel
theorem dd_MO_type_61 : decode bb_MO_type 61 = .ok (.l2i, 1) := by decide +kernel
theorem dd_MO_type_62 : decode bb_MO_type 62 = .ok (.i2b, 1) := by decide +kernel
theorem dd_MO_type_63 : decode bb_MO_type 63 = .ok (.bastore, 1) := by decide +kernel
theorem dd_MO_type_64 : decode bb_MO_type 64 = .ok (.aload_n 0, 1) := by decide +kernel
theorem dd_MO_type_65 : decode bb_MO_type 65 = .ok (.dup, 1) := by decide +kernel
theorem dd_MO_type_66 : decode bb_MO_type 66 = .ok (.getfield 118, 3) := by decide +kernel
theorem dd_MO_type_69 : decode bb_MO_type 69 = .ok (.iconst 1, 1) := by decide +kernel
theorem dd_MO_type_70 : decode bb_MO_type 70 = .ok (.iadd, 1) := by decide +kernel
theorem dd_MO_type_71 : decode bb_MO_type 71 = .ok (.putfield 118, 3) := by decide +kernel
theorem dd_MO_type_74 : decode bb_MO_type 74 = .ok (.iinc 4 (-1), 3) := by decide +kernel
theorem dd_MO_type_77 : decode bb_MO_type 77 = .ok (.goto (-40), 3) := by decide +kernel
theorem dd_MO_type_80 : decode bb_MO_type 80 = .ok (.aload_n 0, 1) := by decide +kernel
theorem dd_MO_type_81 : decode bb_MO_type 81 = .ok (.getfield 118, 3) := by decide +kernel
theorem dd_MO_type_84 : decode bb_MO_type 84 = .ok (.ireturn, 1) := by decide +kernel
def ff_MO_type_37  : Nat → St → Nat → Int64 → Int32 → Option (Int32 × St)
  | 0, _, _, _, _ => none
  | n + 1, x, v0, v1, v4 => (if v4 < 0 then some (gi x v0 7, x) else (if ixb (gi x v0 7) (ln (rf v0 6)) = true then st (si x (rf v0 6) (ix (gi x v0 7)) (vp_nar .byte (((((v1 : Int64) >>> ((8 * v4 : Int32).toInt64 &&& 63)) &&& 255).toInt32).toInt8.toInt32))) (fun x_8 => st (si x_8 v0 7 ((gi x_8 v0 7) + 1)) (fun x_9 => ff_MO_type_37 n x_9 v0 v1 (v4 + (-1)))) else none))
def ff_MO_type  (x : St) (v0 : Nat) (v1 : Int64) (v3 : Int32) : Option (Int32 × St) := bnd (ff_MO_in x v3 1 8) (fun r_1 x_2 => (if r_1 = 0 then bnd (ff_MO_bad x_2 v0) (fun r_13 x_14 => some (r_13, x_14)) else (if ((gi x_2 v0 7) + v3) ≤ 250 then ff_MO_type_37 FU x_2 v0 v1 (v3 - 1) else bnd (ff_MO_full x_2 v0) (fun r_10 x_11 => some (r_10, x_11)))))
set_option maxHeartbeats 4000000 in
set_option maxRecDepth 100000 in
theorem ww_MO_type_37 {p : Program} {l : Launch} {e : Env} {s : State} {m : MethodId} {args : Array Value} {below : List Frame} {meth : Method} {c : Code} {E : Ev} {A : Nat → Prop} {ad : Nat → Nat} {r : Int32} {x' : St} (C0 : Cx E A RMO bb_MO_type 5 (some .int) p s m args meth c) (hap : Ap ad ixM A)  : ∀ (n : Nat), ∀ (x : St) (v0 : Nat) (v1 : Int64) (v4 : Int32), (isO ixM v0 6) → ff_MO_type_37 n x v0 v1 v4 = some (r, x') → ∀ (H : Heap) (locs : List Loc) (ls : Array Slot), Wd E ad ixM x H → va_S A s.heap H locs → lv_has ls 5 [(0, .ref (ad v0)), (1, .long v1), (4, .int v4)] → W p l e rm_MO_type s m args below meth c H locs 0 0 (MQ below (QX E ad ixM A (some (.int r)) x') args s 0 0 A) (F0 m 37 ls []) := by
  obtain ⟨hx, hb, hml, hr, hown, hts, hlk, hK⟩ := id C0
  intro n
  induction n with
  | zero => intro x v0 v1 v4 ho_v0 hf; exact of_no hf
  | succ n ih =>
    intro x v0 v1 v4 ho_v0 hf H locs ls hP hS hl
    have hf : (if v4 < 0 then some (gi x v0 7, x) else (if ixb (gi x v0 7) (ln (rf v0 6)) = true then st (si x (rf v0 6) (ix (gi x v0 7)) (vp_nar .byte (((((v1 : Int64) >>> ((8 * v4 : Int32).toInt64 &&& 63)) &&& 255).toInt32).toInt8.toInt32))) (fun x_8 => st (si x_8 v0 7 ((gi x_8 v0 7) + 1)) (fun x_9 => ff_MO_type_37 n x_9 v0 v1 (v4 + (-1)))) else none)) = some (r, x') := hf
    refine lv_iload hx hb dd_MO_type_37 (lv_at hl 2 rfl) ?_
    refine lv_if_lt (tgt := 80) hx hb dd_MO_type_39 (by decide) (fun h_6 => ?_) (fun h_6 => ?_)
    · have hf := (if_pos h_6).symm.trans hf
      refine lv_aload_n hx hb dd_MO_type_80 rfl (lv_at hl 0 rfl) ?_
      refine gf_MO_118 C0 hP ho_v0 dd_MO_type_81 ?_
      exact rrI C0 hP hS dd_MO_type_84 hf
    · have hf := (if_neg h_6).symm.trans hf
      refine lv_aload_n hx hb dd_MO_type_42 rfl (lv_at hl 0 rfl) ?_
      refine gf_MO_20 C0 hP ho_v0 dd_MO_type_43 ?_
      refine lv_aload_n hx hb dd_MO_type_46 rfl (lv_at hl 0 rfl) ?_
      refine gf_MO_118 C0 hP ho_v0 dd_MO_type_47 ?_
      refine lv_lload_n hx hb dd_MO_type_50 rfl (lv_at hl 1 rfl) ?_
      refine lv_bipush (v := 8) hx hb dd_MO_type_51 (by decide) ?_
      refine lv_iload hx hb dd_MO_type_53 (lv_at hl 2 rfl) ?_
      refine lv_imul hx hb dd_MO_type_55 ?_
      refine lv_lshr hx hb dd_MO_type_56 rfl ?_
      refine lv_ldc2 (v := 255) hx hb hown (hts _ gw_k_MO_121) dd_MO_type_57 ?_
      refine lv_land hx hb dd_MO_type_60 ?_
      refine lv_l2i hx hb dd_MO_type_61 rfl ?_
      refine lv_i2b hx hb dd_MO_type_62 rfl ?_
      obtain ⟨h_7, hf⟩ := of_ifb hf
      obtain ⟨x_8, hx_8, hf⟩ := of_st hf
      refine sB C0 hap hP hS (tp_6_6 ho_v0) h_7 hx_8 dd_MO_type_63 (fun H locs hP hS => ?_)
      refine lv_aload_n hx hb dd_MO_type_64 rfl (lv_at hl 0 rfl) ?_
      refine lv_dup hx hb dd_MO_type_65 rfl ?_
      refine gf_MO_118 C0 hP ho_v0 dd_MO_type_66 ?_
      refine lv_iconst (v := 1) hx hb dd_MO_type_69 (by decide) ?_
      refine lv_iadd hx hb dd_MO_type_70 ?_
      obtain ⟨x_9, hx_9, hf⟩ := of_st hf
      refine pf_MO_118 C0 hap hP hS ho_v0 hx_9 dd_MO_type_71 (fun H locs hP hS => ?_)
      refine lv_iinc (v := v4 + (-1)) (lv' := [(4, .int (v4 + (-1))), (0, .ref (ad v0)), (1, .long v1)]) hx hb dd_MO_type_74 hl (k := 2) rfl rfl (by decide) rfl (fun ls hl => ?_)
      refine lv_goto (tgt := 37) hx hb dd_MO_type_77 (by decide) ?_
      exact ih x_9 v0 v1 (v4 + (-1)) ho_v0 hf _ _ _ hP hS (lv_sub hl [1, 2, 0] rfl)
set_option maxHeartbeats 4000000 in
set_option maxRecDepth 100000 in
theorem ww_MO_type {p : Program} {l : Launch} {e : Env} {s : State} {m : MethodId} {args : Array Value} {below : List Frame} {meth : Method} {c : Code} {E : Ev} {A : Nat → Prop} {ad : Nat → Nat} {r : Int32} {x' : St} (C0 : Cx E A RMO bb_MO_type 5 (some .int) p s m args meth c) (hap : Ap ad ixM A)  {x : St} {v0 : Nat} {v1 : Int64} {v3 : Int32} (ho_v0 : isO ixM v0 6) (hf : ff_MO_type x v0 v1 v3 = some (r, x')) {H : Heap} {locs : List Loc} {ls : Array Slot} (hP : Wd E ad ixM x H) (hS : va_S A s.heap H locs) (hl : lv_has ls 5 [(0, .ref (ad v0)), (1, .long v1), (3, .int v3)]) : W p l e rm_MO_type s m args below meth c H locs 0 0 (MQ below (QX E ad ixM A (some (.int r)) x') args s 0 0 A) (F0 m 0 ls []) := by
  obtain ⟨hx, hb, hml, hr, hown, hts, hlk, hK⟩ := id C0
  have hf : bnd (ff_MO_in x v3 1 8) (fun r_1 x_2 => (if r_1 = 0 then bnd (ff_MO_bad x_2 v0) (fun r_13 x_14 => some (r_13, x_14)) else (if ((gi x_2 v0 7) + v3) ≤ 250 then ff_MO_type_37 FU x_2 v0 v1 (v3 - 1) else bnd (ff_MO_full x_2 v0) (fun r_10 x_11 => some (r_10, x_11))))) = some (r, x') := hf
  refine lv_iload_n hx hb dd_MO_type_0 rfl (lv_at hl 2 rfl) ?_
  refine lv_iconst (v := 1) hx hb dd_MO_type_1 (by decide) ?_
  refine lv_bipush (v := 8) hx hb dd_MO_type_2 (by decide) ?_
  obtain ⟨r_1, x_2, c_3, hf⟩ := of_bnd hf
  refine cl_MO_64 C0 hap  c_3 hP hS ⟨Nat.le_of_ble_eq_true rfl, Nat.le_of_ble_eq_true rfl⟩ hl.1 (Nat.le_of_ble_eq_true rfl) dd_MO_type_4 ⟨Nat.le_refl _, Nat.le_refl _⟩ (fun H locs hP hS => ?_)
  refine lv_if_ne (tgt := 15) hx hb dd_MO_type_7 (by decide) (fun h_4 => ?_) (fun h_4 => ?_)
  · have hf := (if_neg h_4).symm.trans hf
    refine lv_aload_n hx hb dd_MO_type_15 rfl (lv_at hl 0 rfl) ?_
    refine gf_MO_118 C0 hP ho_v0 dd_MO_type_16 ?_
    refine lv_iload_n hx hb dd_MO_type_19 rfl (lv_at hl 2 rfl) ?_
    refine lv_iadd hx hb dd_MO_type_20 ?_
    refine lv_sipush (v := 250) hx hb dd_MO_type_21 (by decide) ?_
    refine lv_icmp_le (tgt := 32) hx hb dd_MO_type_24 (by decide) (fun h_5 => ?_) (fun h_5 => ?_)
    · have hf := (if_pos h_5).symm.trans hf
      refine lv_iload_n hx hb dd_MO_type_32 rfl (lv_at hl 2 rfl) ?_
      refine lv_iconst (v := 1) hx hb dd_MO_type_33 (by decide) ?_
      refine lv_isub hx hb dd_MO_type_34 ?_
      refine lv_istore (lv' := [(4, .int (v3 - 1)), (0, .ref (ad v0)), (1, .long v1), (3, .int v3)]) hx hb dd_MO_type_35 hl (by decide) rfl (fun ls hl => ?_)
      exact ww_MO_type_37 C0 hap  FU x_2 v0 v1 (v3 - 1) ho_v0 hf _ _ _ hP hS (lv_sub hl [1, 2, 0] rfl)
    · have hf := (if_neg h_5).symm.trans hf
      refine lv_aload_n hx hb dd_MO_type_27 rfl (lv_at hl 0 rfl) ?_
      obtain ⟨r_10, x_11, c_12, hf⟩ := of_bnd hf
      refine cl_MO_76 C0 hap ho_v0 c_12 hP hS ⟨Nat.le_of_ble_eq_true rfl, Nat.le_of_ble_eq_true rfl⟩ hl.1 (Nat.le_of_ble_eq_true rfl) dd_MO_type_28 ⟨Nat.le_refl _, Nat.le_refl _⟩ (fun H locs hP hS => ?_)
      exact rrI C0 hP hS dd_MO_type_31 hf
  · have hf := (if_pos h_4).symm.trans hf
    refine lv_aload_n hx hb dd_MO_type_10 rfl (lv_at hl 0 rfl) ?_
    obtain ⟨r_13, x_14, c_15, hf⟩ := of_bnd hf
    refine cl_MO_72 C0 hap ho_v0 c_15 hP hS ⟨Nat.le_of_ble_eq_true rfl, Nat.le_of_ble_eq_true rfl⟩ hl.1 (Nat.le_of_ble_eq_true rfl) dd_MO_type_11 ⟨Nat.le_refl _, Nat.le_refl _⟩ (fun H locs hP hS => ?_)
    exact rrI C0 hP hS dd_MO_type_14 hf
theorem cc_MO_type {l : Launch} {E : Ev} {A : Nat → Prop} {ad : Nat → Nat} (hap : Ap ad ixM A) {x x' : St} {v0 : Nat} {v1 : Int64} {v3 : Int32} {r : Int32} (ho_v0 : isO ixM v0 6) (hf : ff_MO_type x v0 v1 v3 = some (r, x')) : Met l yy_MO_type (Cond.code yy_MO_type bb_MO_type 5 (some .int) :: gtb) rm_MO_type (va_Pc [.ref (ad v0), .long v1, .int v3] (PB E A ad ixM x)) (QX E ad ixM A (some (.int r)) x') 0 0 A := by
  exact enter (by decide) (Nat.le_of_ble_eq_true rfl) (fun p e s m below meth c ls C0 hP hS hl => ww_MO_type C0 hap ho_v0 hf hP hS hl)
abbrev rm_MO_clear : Room := { frames := 0, cells := 0, slots := 0, locals := 0 }
theorem dd_MO_clear_0 : decode bb_MO_clear 0 = .ok (.aload_n 0, 1) := by decide +kernel
theorem dd_MO_clear_1 : decode bb_MO_clear 1 = .ok (.getfield 118, 3) := by decide +kernel
theorem dd_MO_clear_4 : decode bb_MO_clear 4 = .ok (.istore_n 1, 1) := by decide +kernel
theorem dd_MO_clear_5 : decode bb_MO_clear 5 = .ok (.aload_n 0, 1) := by decide +kernel
theorem dd_MO_clear_6 : decode bb_MO_clear 6 = .ok (.iconst 0, 1) := by decide +kernel
theorem dd_MO_clear_7 : decode bb_MO_clear 7 = .ok (.putfield 118, 3) := by decide +kernel
theorem dd_MO_clear_10 : decode bb_MO_clear 10 = .ok (.iload_n 1, 1) := by decide +kernel
theorem dd_MO_clear_11 : decode bb_MO_clear 11 = .ok (.ireturn, 1) := by decide +kernel
def ff_MO_clear  (x : St) (v0 : Nat) : Option (Int32 × St) := st (si x v0 7 0) (fun x_1 => some (gi x v0 7, x_1))
set_option maxHeartbeats 4000000 in
set_option maxRecDepth 100000 in
theorem ww_MO_clear {p : Program} {l : Launch} {e : Env} {s : State} {m : MethodId} {args : Array Value} {below : List Frame} {meth : Method} {c : Code} {E : Ev} {A : Nat → Prop} {ad : Nat → Nat} {r : Int32} {x' : St} (C0 : Cx E A RMO bb_MO_clear 2 (some .int) p s m args meth c) (hap : Ap ad ixM A)  {x : St} {v0 : Nat} (ho_v0 : isO ixM v0 6) (hf : ff_MO_clear x v0 = some (r, x')) {H : Heap} {locs : List Loc} {ls : Array Slot} (hP : Wd E ad ixM x H) (hS : va_S A s.heap H locs) (hl : lv_has ls 2 [(0, .ref (ad v0))]) : W p l e rm_MO_clear s m args below meth c H locs 0 0 (MQ below (QX E ad ixM A (some (.int r)) x') args s 0 0 A) (F0 m 0 ls []) := by
  obtain ⟨hx, hb, hml, hr, hown, hts, hlk, hK⟩ := id C0
  have hf : st (si x v0 7 0) (fun x_1 => some (gi x v0 7, x_1)) = some (r, x') := hf
  refine lv_aload_n hx hb dd_MO_clear_0 rfl (lv_at hl 0 rfl) ?_
  refine gf_MO_118 C0 hP ho_v0 dd_MO_clear_1 ?_
  refine lv_istore_n (lv' := [(1, .int (gi x v0 7)), (0, .ref (ad v0))]) hx hb dd_MO_clear_4 rfl hl (by decide) rfl (fun ls hl => ?_)
  refine lv_aload_n hx hb dd_MO_clear_5 rfl (lv_at hl 1 rfl) ?_
  refine lv_iconst (v := 0) hx hb dd_MO_clear_6 (by decide) ?_
  obtain ⟨x_1, hx_1, hf⟩ := of_st hf
  refine pf_MO_118 C0 hap hP hS ho_v0 hx_1 dd_MO_clear_7 (fun H locs hP hS => ?_)
  refine lv_iload_n hx hb dd_MO_clear_10 rfl (lv_at hl 0 rfl) ?_
  exact rrI C0 hP hS dd_MO_clear_11 hf
theorem cc_MO_clear {l : Launch} {E : Ev} {A : Nat → Prop} {ad : Nat → Nat} (hap : Ap ad ixM A) {x x' : St} {v0 : Nat} {r : Int32} (ho_v0 : isO ixM v0 6) (hf : ff_MO_clear x v0 = some (r, x')) : Met l yy_MO_clear (Cond.code yy_MO_clear bb_MO_clear 2 (some .int) :: gtb) rm_MO_clear (va_Pc [.ref (ad v0)] (PB E A ad ixM x)) (QX E ad ixM A (some (.int r)) x') 0 0 A := by
  exact enter (by decide) (Nat.le_of_ble_eq_true rfl) (fun p e s m below meth c ls C0 hP hS hl => ww_MO_clear C0 hap ho_v0 hf hP hS hl)
