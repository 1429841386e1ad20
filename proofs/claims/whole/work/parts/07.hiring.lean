theorem cl_HI_42 {p : Program} {l : Launch} {e : Env} {R : Room} {s : State} {m : MethodId} {args : Array Value} {below : List Frame} {meth : Method} {c : Code} {H : Heap} {locs : List Loc} {cells slots : Nat} {Q : State → Prop} {cc : ByteArray} {pc : Nat} {ls : Array Slot} {rest : List Value} {E : Ev} {A : Nat → Prop} {ad : Nat → Nat} {nL : Nat} {rt : Option FieldType} (C0 : Cx E A RHI cc nL rt p s m args meth c) (hap : Ap ad ixC A) {x x' : St} {v0 : Nat} {v1 : Int32} {v2 : Int32} {r : Int32} (ho_v0 : isO ixC v0 1) (hc : ff_LE_at x v0 v1 v2 = some (r, x')) (hP : Wd E ad ixC x H) (hS : va_S A s.heap H locs) (hR : rm_LE_at.frames + 1 ≤ R.frames ∧ 8 + (3 + 11) + rm_LE_at.locals ≤ R.locals) (hls : ls.size = nL) (hroom : (rest.map fun v => v.category).sum ≤ 8) (hdg : decode cc pc = .ok (.invokevirtual 42, 3)) (hf : cells ≤ R.cells ∧ slots ≤ R.slots) (kk : ∀ H1 locs1, Wd E ad ixC x' H1 → va_S A s.heap H1 locs1 → W p l e R s m args below meth c H1 locs1 cells slots Q (F0 m (pc + 3) ls (.int r :: rest))) : W p l e R s m args below meth c H locs cells slots Q (F0 m pc ls (.int v2 :: .int v1 :: .ref (ad v0) :: rest)) :=
  rcV (n := 2) C0 (cc_LE_at hap ho_v0 hc) hP hS ho_v0 vcl_1 (by decide) gw_code_LE_at gw_m_HI_42 gw_inst_LE_at gw_sel_LE_at gw_ini_LE rfl rfl (by decide +kernel) rfl hR hls rfl hroom hdg hf (fun H1 locs1 a _ _ b => kk H1 locs1 a b)
theorem cl_HI_53 {p : Program} {l : Launch} {e : Env} {R : Room} {s : State} {m : MethodId} {args : Array Value} {below : List Frame} {meth : Method} {c : Code} {H : Heap} {locs : List Loc} {cells slots : Nat} {Q : State → Prop} {cc : ByteArray} {pc : Nat} {ls : Array Slot} {rest : List Value} {E : Ev} {A : Nat → Prop} {ad : Nat → Nat} {nL : Nat} {rt : Option FieldType} (C0 : Cx E A RHI cc nL rt p s m args meth c) (hap : Ap ad ixC A) {x x' : St} {v0 : Nat} {v1 : Int32} {r : Unit} (ho_v0 : isO ixC v0 20) (hc : ff_AR_fillI x v0 v1 = some (r, x')) (hP : Wd E ad ixC x H) (hS : va_S A s.heap H locs) (hR : rm_AR_fillI.frames + 1 ≤ R.frames ∧ 8 + (4 + 11) + rm_AR_fillI.locals ≤ R.locals) (hls : ls.size = nL) (hroom : (rest.map fun v => v.category).sum ≤ 8) (hdg : decode cc pc = .ok (.invokestatic 53, 3)) (hf : cells ≤ R.cells ∧ slots ≤ R.slots) (kk : ∀ H1 locs1, Wd E ad ixC x' H1 → va_S A s.heap H1 locs1 → W p l e R s m args below meth c H1 locs1 cells slots Q (F0 m (pc + 3) ls (rest))) : W p l e R s m args below meth c H locs cells slots Q (F0 m pc ls (.int v1 :: .ref (ad v0) :: rest)) :=
  rcS (n := 2) C0 (cc_AR_fillI hap ho_v0 hc) hP hS gw_code_AR_fillI gw_m_HI_53 gw_static_AR_fillI gw_ini_AR rfl rfl (by decide +kernel) rfl hR hls rfl hroom hdg hf (fun H1 locs1 a _ _ b => kk H1 locs1 a b)
theorem cl_HI_62 {p : Program} {l : Launch} {e : Env} {R : Room} {s : State} {m : MethodId} {args : Array Value} {below : List Frame} {meth : Method} {c : Code} {H : Heap} {locs : List Loc} {cells slots : Nat} {Q : State → Prop} {cc : ByteArray} {pc : Nat} {ls : Array Slot} {rest : List Value} {E : Ev} {A : Nat → Prop} {ad : Nat → Nat} {nL : Nat} {rt : Option FieldType} (C0 : Cx E A RHI cc nL rt p s m args meth c) (hap : Ap ad ixC A) {x x' : St} {v0 : Nat} {v1 : Int32} {r : Int32} (ho_v0 : isO ixC v0 4) (hc : ff_SH_isLasting x v0 v1 = some (r, x')) (hP : Wd E ad ixC x H) (hS : va_S A s.heap H locs) (hR : rm_SH_isLasting.frames + 1 ≤ R.frames ∧ 8 + (4 + 11) + rm_SH_isLasting.locals ≤ R.locals) (hls : ls.size = nL) (hroom : (rest.map fun v => v.category).sum ≤ 8) (hdg : decode cc pc = .ok (.invokevirtual 62, 3)) (hf : cells ≤ R.cells ∧ slots ≤ R.slots) (kk : ∀ H1 locs1, Wd E ad ixC x' H1 → va_S A s.heap H1 locs1 → W p l e R s m args below meth c H1 locs1 cells slots Q (F0 m (pc + 3) ls (.int r :: rest))) : W p l e R s m args below meth c H locs cells slots Q (F0 m pc ls (.int v1 :: .ref (ad v0) :: rest)) :=
  rcV (n := 1) C0 (cc_SH_isLasting hap ho_v0 hc) hP hS ho_v0 vcl_4 (by decide) gw_code_SH_isLasting gw_m_HI_62 gw_inst_SH_isLasting gw_sel_SH_isLasting gw_ini_SH rfl rfl (by decide +kernel) rfl hR hls rfl hroom hdg hf (fun H1 locs1 a _ _ b => kk H1 locs1 a b)
theorem cl_HI_72 {p : Program} {l : Launch} {e : Env} {R : Room} {s : State} {m : MethodId} {args : Array Value} {below : List Frame} {meth : Method} {c : Code} {H : Heap} {locs : List Loc} {cells slots : Nat} {Q : State → Prop} {cc : ByteArray} {pc : Nat} {ls : Array Slot} {rest : List Value} {E : Ev} {A : Nat → Prop} {ad : Nat → Nat} {nL : Nat} {rt : Option FieldType} (C0 : Cx E A RHI cc nL rt p s m args meth c) (hap : Ap ad ixC A) {x x' : St} {v0 : Nat} {v1 : Int32} {v2 : Int32} {r : Int32} (ho_v0 : isO ixC v0 4) (hc : ff_SH_isPartOf x v0 v1 v2 = some (r, x')) (hP : Wd E ad ixC x H) (hS : va_S A s.heap H locs) (hR : rm_SH_isPartOf.frames + 1 ≤ R.frames ∧ 8 + (3 + 11) + rm_SH_isPartOf.locals ≤ R.locals) (hls : ls.size = nL) (hroom : (rest.map fun v => v.category).sum ≤ 8) (hdg : decode cc pc = .ok (.invokevirtual 72, 3)) (hf : cells ≤ R.cells ∧ slots ≤ R.slots) (kk : ∀ H1 locs1, Wd E ad ixC x' H1 → va_S A s.heap H1 locs1 → W p l e R s m args below meth c H1 locs1 cells slots Q (F0 m (pc + 3) ls (.int r :: rest))) : W p l e R s m args below meth c H locs cells slots Q (F0 m pc ls (.int v2 :: .int v1 :: .ref (ad v0) :: rest)) :=
  rcV (n := 2) C0 (cc_SH_isPartOf hap ho_v0 hc) hP hS ho_v0 vcl_4 (by decide) gw_code_SH_isPartOf gw_m_HI_72 gw_inst_SH_isPartOf gw_sel_SH_isPartOf gw_ini_SH rfl rfl (by decide +kernel) rfl hR hls rfl hroom hdg hf (fun H1 locs1 a _ _ b => kk H1 locs1 a b)
abbrev rm_HI_lookForNeeds : Room := { frames := 4, cells := 0, slots := 0, locals := 94 }
theorem dd_HI_lookForNeeds_0 : decode bb_HI_lookForNeeds 0 = .ok (.aload_n 0, 1) := by decide +kernel
theorem dd_HI_lookForNeeds_1 : decode bb_HI_lookForNeeds 1 = .ok (.getfield 9, 3) := by decide +kernel
theorem dd_HI_lookForNeeds_4 : decode bb_HI_lookForNeeds 4 = .ok (.iconst (-1), 1) := by decide +kernel
theorem dd_HI_lookForNeeds_5 : decode bb_HI_lookForNeeds 5 = .ok (.invokestatic 53, 3) := by decide +kernel
theorem dd_HI_lookForNeeds_8 : decode bb_HI_lookForNeeds 8 = .ok (.iconst 0, 1) := by decide +kernel
theorem dd_HI_lookForNeeds_9 : decode bb_HI_lookForNeeds 9 = .ok (.istore_n 2, 1) := by decide +kernel
theorem dd_HI_lookForNeeds_10 : decode bb_HI_lookForNeeds 10 = .ok (.iload_n 2, 1) := by decide +kernel
theorem dd_HI_lookForNeeds_11 : decode bb_HI_lookForNeeds 11 = .ok (.aload_n 1, 1) := by decide +kernel
theorem dd_HI_lookForNeeds_12 : decode bb_HI_lookForNeeds 12 = .ok (.getfield 59, 3) := by decide +kernel
theorem dd_HI_lookForNeeds_15 : decode bb_HI_lookForNeeds 15 = .ok (.getfield 28, 3) := by decide +kernel
theorem dd_HI_lookForNeeds_18 : decode bb_HI_lookForNeeds 18 = .ok (.if_icmp .ge 78, 3) := by decide +kernel
theorem dd_HI_lookForNeeds_21 : decode bb_HI_lookForNeeds 21 = .ok (.aload_n 1, 1) := by decide +kernel
theorem dd_HI_lookForNeeds_22 : decode bb_HI_lookForNeeds 22 = .ok (.iload_n 2, 1) := by decide +kernel
theorem dd_HI_lookForNeeds_23 : decode bb_HI_lookForNeeds 23 = .ok (.invokevirtual 62, 3) := by decide +kernel
theorem dd_HI_lookForNeeds_26 : decode bb_HI_lookForNeeds 26 = .ok (.ifCond .ne 64, 3) := by decide +kernel
theorem dd_HI_lookForNeeds_29 : decode bb_HI_lookForNeeds 29 = .ok (.aload_n 1, 1) := by decide +kernel
theorem dd_HI_lookForNeeds_30 : decode bb_HI_lookForNeeds 30 = .ok (.getfield 59, 3) := by decide +kernel
theorem dd_HI_lookForNeeds_33 : decode bb_HI_lookForNeeds 33 = .ok (.iload_n 2, 1) := by decide +kernel
theorem dd_HI_lookForNeeds_34 : decode bb_HI_lookForNeeds 34 = .ok (.iconst 1, 1) := by decide +kernel
theorem dd_HI_lookForNeeds_35 : decode bb_HI_lookForNeeds 35 = .ok (.invokevirtual 42, 3) := by decide +kernel
theorem dd_HI_lookForNeeds_38 : decode bb_HI_lookForNeeds 38 = .ok (.aload_n 1, 1) := by decide +kernel
theorem dd_HI_lookForNeeds_39 : decode bb_HI_lookForNeeds 39 = .ok (.getfield 66, 3) := by decide +kernel
theorem dd_HI_lookForNeeds_42 : decode bb_HI_lookForNeeds 42 = .ok (.invokestatic 69, 3) := by decide +kernel
theorem dd_HI_lookForNeeds_45 : decode bb_HI_lookForNeeds 45 = .ok (.istore_n 3, 1) := by decide +kernel
theorem dd_HI_lookForNeeds_46 : decode bb_HI_lookForNeeds 46 = .ok (.iconst 0, 1) := by decide +kernel
theorem dd_HI_lookForNeeds_47 : decode bb_HI_lookForNeeds 47 = .ok (.istore 4, 2) := by decide +kernel
theorem dd_HI_lookForNeeds_49 : decode bb_HI_lookForNeeds 49 = .ok (.iload 4, 2) := by decide +kernel
theorem dd_HI_lookForNeeds_51 : decode bb_HI_lookForNeeds 51 = .ok (.bipush 6, 2) := by decide +kernel
theorem dd_HI_lookForNeeds_53 : decode bb_HI_lookForNeeds 53 = .ok (.if_icmp .ge 37, 3) := by decide +kernel
theorem dd_HI_lookForNeeds_56 : decode bb_HI_lookForNeeds 56 = .ok (.aload_n 1, 1) := by decide +kernel
theorem dd_HI_lookForNeeds_57 : decode bb_HI_lookForNeeds 57 = .ok (.iload 4, 2) := by decide +kernel
theorem dd_HI_lookForNeeds_59 : decode bb_HI_lookForNeeds 59 = .ok (.iload_n 2, 1) := by decide +kernel
theorem dd_HI_lookForNeeds_60 : decode bb_HI_lookForNeeds 60 = .ok (.invokevirtual 72, 3) := by decide +kernel
theorem dd_HI_lookForNeeds_63 : decode bb_HI_lookForNeeds 63 = .ok (.ifCond .eq 21, 3) := by decide +kernel
theorem dd_HI_lookForNeeds_66 : decode bb_HI_lookForNeeds 66 = .ok (.aload_n 0, 1) := by decide +kernel
theorem dd_HI_lookForNeeds_67 : decode bb_HI_lookForNeeds 67 = .ok (.getfield 9, 3) := by decide +kernel
theorem dd_HI_lookForNeeds_70 : decode bb_HI_lookForNeeds 70 = .ok (.iload 4, 2) := by decide +kernel
theorem dd_HI_lookForNeeds_72 : decode bb_HI_lookForNeeds 72 = .ok (.aload_n 0, 1) := by decide +kernel
theorem dd_HI_lookForNeeds_73 : decode bb_HI_lookForNeeds 73 = .ok (.getfield 9, 3) := by decide +kernel
theorem dd_HI_lookForNeeds_76 : decode bb_HI_lookForNeeds 76 = .ok (.iload 4, 2) := by decide +kernel
theorem dd_HI_lookForNeeds_78 : decode bb_HI_lookForNeeds 78 = .ok (.iaload, 1) := by decide +kernel
theorem dd_HI_lookForNeeds_79 : decode bb_HI_lookForNeeds 79 = .ok (.iload_n 3, 1) := by decide +kernel
theorem dd_HI_lookForNeeds_80 : decode bb_HI_lookForNeeds 80 = .ok (.invokestatic 69, 3) := by decide +kernel
theorem dd_HI_lookForNeeds_83 : decode bb_HI_lookForNeeds 83 = .ok (.iastore, 1) := by decide +kernel
theorem dd_HI_lookForNeeds_84 : decode bb_HI_lookForNeeds 84 = .ok (.iinc 4 1, 3) := by decide +kernel
theorem dd_HI_lookForNeeds_87 : decode bb_HI_lookForNeeds 87 = .ok (.goto (-38), 3) := by decide +kernel
theorem dd_HI_lookForNeeds_90 : decode bb_HI_lookForNeeds 90 = .ok (.iinc 2 1, 3) := by decide +kernel
theorem dd_HI_lookForNeeds_93 : decode bb_HI_lookForNeeds 93 = .ok (.goto (-83), 3) := by decide +kernel
theorem dd_HI_lookForNeeds_96 : decode bb_HI_lookForNeeds 96 = .ok (.return_, 1) := by decide +kernel
def ff_HI_lookForNeeds_49 (k_10 : St → Nat → Nat → Int32 → Option (Unit × St)) : Nat → St → Nat → Nat → Int32 → Int32 → Int32 → Option (Unit × St)
  | 0, _, _, _, _, _, _ => none
  | n + 1, x, v0, v1, v2, v3, v4 => (if 6 ≤ v4 then k_10 x v0 v1 (v2 + 1) else bnd (ff_SH_isPartOf x v1 v4 v2) (fun r_13 x_14 => (if r_13 = 0 then ff_HI_lookForNeeds_49 k_10 n x_14 v0 v1 v2 v3 (v4 + 1) else (if ixb v4 (ln (rf v0 0)) = true then (if ixb v4 (ln (rf v0 0)) = true then st (si x_14 (rf v0 0) (ix v4) (imax (gi x_14 (rf v0 0) (ix v4)) v3)) (fun x_19 => ff_HI_lookForNeeds_49 k_10 n x_19 v0 v1 v2 v3 (v4 + 1)) else none) else none))))
def ff_HI_lookForNeeds_10  : Nat → St → Nat → Nat → Int32 → Option (Unit × St)
  | 0, _, _, _, _ => none
  | n + 1, x, v0, v1, v2 => (if (gi x (rf v1 2) 3) ≤ v2 then some ((), x) else bnd (ff_SH_isLasting x v1 v2) (fun r_5 x_6 => (if r_5 = 0 then bnd (ff_LE_at x_6 (rf v1 2) v2 1) (fun r_9 x_10 => ff_HI_lookForNeeds_49 (ff_HI_lookForNeeds_10 n) FU x_10 v0 v1 v2 (imax r_9 (gi x_10 v1 9)) 0) else ff_HI_lookForNeeds_10 n x_6 v0 v1 (v2 + 1))))
def ff_HI_lookForNeeds  (x : St) (v0 : Nat) (v1 : Nat) : Option (Unit × St) := bnd (ff_AR_fillI x (rf v0 0) (-1)) (fun _ x_2 => ff_HI_lookForNeeds_10 FU x_2 v0 v1 0)
set_option maxHeartbeats 4000000 in
set_option maxRecDepth 100000 in
theorem ww_HI_lookForNeeds_49 {p : Program} {l : Launch} {e : Env} {s : State} {m : MethodId} {args : Array Value} {below : List Frame} {meth : Method} {c : Code} {E : Ev} {A : Nat → Prop} {ad : Nat → Nat} {r : Unit} {x' : St} (C0 : Cx E A RHI bb_HI_lookForNeeds 5 (none) p s m args meth c) (hap : Ap ad ixC A) {k_10 : St → Nat → Nat → Int32 → Option (Unit × St)} (hk_10 : ∀ (x : St) (v0 : Nat) (v1 : Nat) (v2 : Int32), (isO ixC v0 0) → (isO ixC v1 4) → k_10 x v0 v1 v2 = some (r, x') → ∀ (H : Heap) (locs : List Loc) (ls : Array Slot), Wd E ad ixC x H → va_S A s.heap H locs → lv_has ls 5 [(0, .ref (ad v0)), (1, .ref (ad v1)), (2, .int v2)] → W p l e rm_HI_lookForNeeds s m args below meth c H locs 0 0 (MQ below (QX E ad ixC A (none) x') args s 0 0 A) (F0 m 10 ls [])) : ∀ (n : Nat), ∀ (x : St) (v0 : Nat) (v1 : Nat) (v2 : Int32) (v3 : Int32) (v4 : Int32), (isO ixC v0 0) → (isO ixC v1 4) → ff_HI_lookForNeeds_49 k_10 n x v0 v1 v2 v3 v4 = some (r, x') → ∀ (H : Heap) (locs : List Loc) (ls : Array Slot), Wd E ad ixC x H → va_S A s.heap H locs → lv_has ls 5 [(0, .ref (ad v0)), (1, .ref (ad v1)), (2, .int v2), (3, .int v3), (4, .int v4)] → W p l e rm_HI_lookForNeeds s m args below meth c H locs 0 0 (MQ below (QX E ad ixC A (none) x') args s 0 0 A) (F0 m 49 ls []) := by
  obtain ⟨hx, hb, hml, hr, hown, hts, hlk, hK⟩ := id C0
  intro n
  induction n with
  | zero => intro x v0 v1 v2 v3 v4 ho_v0 ho_v1 hf; exact of_no hf
  | succ n ih =>
    intro x v0 v1 v2 v3 v4 ho_v0 ho_v1 hf H locs ls hP hS hl
    have hf : (if 6 ≤ v4 then k_10 x v0 v1 (v2 + 1) else bnd (ff_SH_isPartOf x v1 v4 v2) (fun r_13 x_14 => (if r_13 = 0 then ff_HI_lookForNeeds_49 k_10 n x_14 v0 v1 v2 v3 (v4 + 1) else (if ixb v4 (ln (rf v0 0)) = true then (if ixb v4 (ln (rf v0 0)) = true then st (si x_14 (rf v0 0) (ix v4) (imax (gi x_14 (rf v0 0) (ix v4)) v3)) (fun x_19 => ff_HI_lookForNeeds_49 k_10 n x_19 v0 v1 v2 v3 (v4 + 1)) else none) else none)))) = some (r, x') := hf
    refine lv_iload hx hb dd_HI_lookForNeeds_49 (lv_at hl 4 rfl) ?_
    refine lv_bipush (v := 6) hx hb dd_HI_lookForNeeds_51 (by decide) ?_
    refine lv_icmp_ge (tgt := 90) hx hb dd_HI_lookForNeeds_53 (by decide) (fun h_12 => ?_) (fun h_12 => ?_)
    · have hf := (if_pos h_12).symm.trans hf
      refine lv_iinc (v := v2 + 1) (lv' := [(2, .int (v2 + 1)), (0, .ref (ad v0)), (1, .ref (ad v1)), (3, .int v3), (4, .int v4)]) hx hb dd_HI_lookForNeeds_90 hl (k := 2) rfl rfl (by decide) rfl (fun ls hl => ?_)
      refine lv_goto (tgt := 10) hx hb dd_HI_lookForNeeds_93 (by decide) ?_
      exact hk_10 x v0 v1 (v2 + 1) ho_v0 ho_v1 hf _ _ _ hP hS (lv_sub hl [1, 2, 0] rfl)
    · have hf := (if_neg h_12).symm.trans hf
      refine lv_aload_n hx hb dd_HI_lookForNeeds_56 rfl (lv_at hl 1 rfl) ?_
      refine lv_iload hx hb dd_HI_lookForNeeds_57 (lv_at hl 4 rfl) ?_
      refine lv_iload_n hx hb dd_HI_lookForNeeds_59 rfl (lv_at hl 2 rfl) ?_
      obtain ⟨r_13, x_14, c_15, hf⟩ := of_bnd hf
      refine cl_HI_72 C0 hap ho_v1 c_15 hP hS ⟨Nat.le_of_ble_eq_true rfl, Nat.le_of_ble_eq_true rfl⟩ hl.1 (Nat.le_of_ble_eq_true rfl) dd_HI_lookForNeeds_60 ⟨Nat.le_refl _, Nat.le_refl _⟩ (fun H locs hP hS => ?_)
      refine lv_if_eq (tgt := 84) hx hb dd_HI_lookForNeeds_63 (by decide) (fun h_16 => ?_) (fun h_16 => ?_)
      · have hf := (if_pos h_16).symm.trans hf
        refine lv_iinc (v := v4 + 1) (lv' := [(4, .int (v4 + 1)), (0, .ref (ad v0)), (1, .ref (ad v1)), (2, .int v2), (3, .int v3)]) hx hb dd_HI_lookForNeeds_84 hl (k := 4) rfl rfl (by decide) rfl (fun ls hl => ?_)
        refine lv_goto (tgt := 49) hx hb dd_HI_lookForNeeds_87 (by decide) ?_
        exact ih x_14 v0 v1 v2 v3 (v4 + 1) ho_v0 ho_v1 hf _ _ _ hP hS (lv_sub hl [1, 2, 3, 4, 0] rfl)
      · have hf := (if_neg h_16).symm.trans hf
        refine lv_aload_n hx hb dd_HI_lookForNeeds_66 rfl (lv_at hl 0 rfl) ?_
        refine gf_HI_9 C0 hP ho_v0 dd_HI_lookForNeeds_67 ?_
        refine lv_iload hx hb dd_HI_lookForNeeds_70 (lv_at hl 4 rfl) ?_
        refine lv_aload_n hx hb dd_HI_lookForNeeds_72 rfl (lv_at hl 0 rfl) ?_
        refine gf_HI_9 C0 hP ho_v0 dd_HI_lookForNeeds_73 ?_
        refine lv_iload hx hb dd_HI_lookForNeeds_76 (lv_at hl 4 rfl) ?_
        obtain ⟨h_17, hf⟩ := of_ifb hf
        refine raI C0 hP (tp_0_0 ho_v0) h_17 dd_HI_lookForNeeds_78 ?_
        refine lv_iload_n hx hb dd_HI_lookForNeeds_79 rfl (lv_at hl 3 rfl) ?_
        refine rmax C0 hl.1 gw_m_HI_69 (Nat.le_of_ble_eq_true rfl) ⟨Nat.le_of_ble_eq_true rfl, Nat.le_of_ble_eq_true rfl⟩ ⟨Nat.le_refl _, Nat.le_refl _⟩ dd_HI_lookForNeeds_80 ?_
        obtain ⟨h_18, hf⟩ := of_ifb hf
        obtain ⟨x_19, hx_19, hf⟩ := of_st hf
        refine sI C0 hap hP hS (tp_0_0 ho_v0) h_18 hx_19 dd_HI_lookForNeeds_83 (fun H locs hP hS => ?_)
        refine lv_iinc (v := v4 + 1) (lv' := [(4, .int (v4 + 1)), (0, .ref (ad v0)), (1, .ref (ad v1)), (2, .int v2), (3, .int v3)]) hx hb dd_HI_lookForNeeds_84 hl (k := 4) rfl rfl (by decide) rfl (fun ls hl => ?_)
        refine lv_goto (tgt := 49) hx hb dd_HI_lookForNeeds_87 (by decide) ?_
        exact ih x_19 v0 v1 v2 v3 (v4 + 1) ho_v0 ho_v1 hf _ _ _ hP hS (lv_sub hl [1, 2, 3, 4, 0] rfl)
set_option maxHeartbeats 4000000 in
set_option maxRecDepth 100000 in
theorem ww_HI_lookForNeeds_10 {p : Program} {l : Launch} {e : Env} {s : State} {m : MethodId} {args : Array Value} {below : List Frame} {meth : Method} {c : Code} {E : Ev} {A : Nat → Prop} {ad : Nat → Nat} {r : Unit} {x' : St} (C0 : Cx E A RHI bb_HI_lookForNeeds 5 (none) p s m args meth c) (hap : Ap ad ixC A)  : ∀ (n : Nat), ∀ (x : St) (v0 : Nat) (v1 : Nat) (v2 : Int32), (isO ixC v0 0) → (isO ixC v1 4) → ff_HI_lookForNeeds_10 n x v0 v1 v2 = some (r, x') → ∀ (H : Heap) (locs : List Loc) (ls : Array Slot), Wd E ad ixC x H → va_S A s.heap H locs → lv_has ls 5 [(0, .ref (ad v0)), (1, .ref (ad v1)), (2, .int v2)] → W p l e rm_HI_lookForNeeds s m args below meth c H locs 0 0 (MQ below (QX E ad ixC A (none) x') args s 0 0 A) (F0 m 10 ls []) := by
  obtain ⟨hx, hb, hml, hr, hown, hts, hlk, hK⟩ := id C0
  intro n
  induction n with
  | zero => intro x v0 v1 v2 ho_v0 ho_v1 hf; exact of_no hf
  | succ n ih =>
    intro x v0 v1 v2 ho_v0 ho_v1 hf H locs ls hP hS hl
    have hf : (if (gi x (rf v1 2) 3) ≤ v2 then some ((), x) else bnd (ff_SH_isLasting x v1 v2) (fun r_5 x_6 => (if r_5 = 0 then bnd (ff_LE_at x_6 (rf v1 2) v2 1) (fun r_9 x_10 => ff_HI_lookForNeeds_49 (ff_HI_lookForNeeds_10 n) FU x_10 v0 v1 v2 (imax r_9 (gi x_10 v1 9)) 0) else ff_HI_lookForNeeds_10 n x_6 v0 v1 (v2 + 1)))) = some (r, x') := hf
    refine lv_iload_n hx hb dd_HI_lookForNeeds_10 rfl (lv_at hl 2 rfl) ?_
    refine lv_aload_n hx hb dd_HI_lookForNeeds_11 rfl (lv_at hl 1 rfl) ?_
    refine gf_HI_59 C0 hP ho_v1 dd_HI_lookForNeeds_12 ?_
    refine gf_HI_28 C0 hP (tp_4_2 ho_v1) dd_HI_lookForNeeds_15 ?_
    refine lv_icmp_ge (tgt := 96) hx hb dd_HI_lookForNeeds_18 (by decide) (fun h_4 => ?_) (fun h_4 => ?_)
    · have hf := (if_pos h_4).symm.trans hf
      exact rrV C0 hP hS dd_HI_lookForNeeds_96 hf
    · have hf := (if_neg h_4).symm.trans hf
      refine lv_aload_n hx hb dd_HI_lookForNeeds_21 rfl (lv_at hl 1 rfl) ?_
      refine lv_iload_n hx hb dd_HI_lookForNeeds_22 rfl (lv_at hl 2 rfl) ?_
      obtain ⟨r_5, x_6, c_7, hf⟩ := of_bnd hf
      refine cl_HI_62 C0 hap ho_v1 c_7 hP hS ⟨Nat.le_of_ble_eq_true rfl, Nat.le_of_ble_eq_true rfl⟩ hl.1 (Nat.le_of_ble_eq_true rfl) dd_HI_lookForNeeds_23 ⟨Nat.le_refl _, Nat.le_refl _⟩ (fun H locs hP hS => ?_)
      refine lv_if_ne (tgt := 90) hx hb dd_HI_lookForNeeds_26 (by decide) (fun h_8 => ?_) (fun h_8 => ?_)
      · have hf := (if_neg h_8).symm.trans hf
        refine lv_iinc (v := v2 + 1) (lv' := [(2, .int (v2 + 1)), (0, .ref (ad v0)), (1, .ref (ad v1))]) hx hb dd_HI_lookForNeeds_90 hl (k := 2) rfl rfl (by decide) rfl (fun ls hl => ?_)
        refine lv_goto (tgt := 10) hx hb dd_HI_lookForNeeds_93 (by decide) ?_
        exact ih x_6 v0 v1 (v2 + 1) ho_v0 ho_v1 hf _ _ _ hP hS (lv_sub hl [1, 2, 0] rfl)
      · have hf := (if_pos h_8).symm.trans hf
        refine lv_aload_n hx hb dd_HI_lookForNeeds_29 rfl (lv_at hl 1 rfl) ?_
        refine gf_HI_59 C0 hP ho_v1 dd_HI_lookForNeeds_30 ?_
        refine lv_iload_n hx hb dd_HI_lookForNeeds_33 rfl (lv_at hl 2 rfl) ?_
        refine lv_iconst (v := 1) hx hb dd_HI_lookForNeeds_34 (by decide) ?_
        obtain ⟨r_9, x_10, c_11, hf⟩ := of_bnd hf
        refine cl_HI_42 C0 hap (tp_4_2 ho_v1) c_11 hP hS ⟨Nat.le_of_ble_eq_true rfl, Nat.le_of_ble_eq_true rfl⟩ hl.1 (Nat.le_of_ble_eq_true rfl) dd_HI_lookForNeeds_35 ⟨Nat.le_refl _, Nat.le_refl _⟩ (fun H locs hP hS => ?_)
        refine lv_aload_n hx hb dd_HI_lookForNeeds_38 rfl (lv_at hl 1 rfl) ?_
        refine gf_HI_66 C0 hP ho_v1 dd_HI_lookForNeeds_39 ?_
        refine rmax C0 hl.1 gw_m_HI_69 (Nat.le_of_ble_eq_true rfl) ⟨Nat.le_of_ble_eq_true rfl, Nat.le_of_ble_eq_true rfl⟩ ⟨Nat.le_refl _, Nat.le_refl _⟩ dd_HI_lookForNeeds_42 ?_
        refine lv_istore_n (lv' := [(3, .int (imax r_9 (gi x_10 v1 9))), (0, .ref (ad v0)), (1, .ref (ad v1)), (2, .int v2)]) hx hb dd_HI_lookForNeeds_45 rfl hl (by decide) rfl (fun ls hl => ?_)
        refine lv_iconst (v := 0) hx hb dd_HI_lookForNeeds_46 (by decide) ?_
        refine lv_istore (lv' := [(4, .int 0), (3, .int (imax r_9 (gi x_10 v1 9))), (0, .ref (ad v0)), (1, .ref (ad v1)), (2, .int v2)]) hx hb dd_HI_lookForNeeds_47 hl (by decide) rfl (fun ls hl => ?_)
        exact ww_HI_lookForNeeds_49 C0 hap ih FU x_10 v0 v1 v2 (imax r_9 (gi x_10 v1 9)) 0 ho_v0 ho_v1 hf _ _ _ hP hS (lv_sub hl [2, 3, 4, 1, 0] rfl)
set_option maxHeartbeats 4000000 in
set_option maxRecDepth 100000 in
theorem ww_HI_lookForNeeds {p : Program} {l : Launch} {e : Env} {s : State} {m : MethodId} {args : Array Value} {below : List Frame} {meth : Method} {c : Code} {E : Ev} {A : Nat → Prop} {ad : Nat → Nat} {r : Unit} {x' : St} (C0 : Cx E A RHI bb_HI_lookForNeeds 5 (none) p s m args meth c) (hap : Ap ad ixC A)  {x : St} {v0 : Nat} {v1 : Nat} (ho_v0 : isO ixC v0 0) (ho_v1 : isO ixC v1 4) (hf : ff_HI_lookForNeeds x v0 v1 = some (r, x')) {H : Heap} {locs : List Loc} {ls : Array Slot} (hP : Wd E ad ixC x H) (hS : va_S A s.heap H locs) (hl : lv_has ls 5 [(0, .ref (ad v0)), (1, .ref (ad v1))]) : W p l e rm_HI_lookForNeeds s m args below meth c H locs 0 0 (MQ below (QX E ad ixC A (none) x') args s 0 0 A) (F0 m 0 ls []) := by
  obtain ⟨hx, hb, hml, hr, hown, hts, hlk, hK⟩ := id C0
  have hf : bnd (ff_AR_fillI x (rf v0 0) (-1)) (fun _ x_2 => ff_HI_lookForNeeds_10 FU x_2 v0 v1 0) = some (r, x') := hf
  refine lv_aload_n hx hb dd_HI_lookForNeeds_0 rfl (lv_at hl 0 rfl) ?_
  refine gf_HI_9 C0 hP ho_v0 dd_HI_lookForNeeds_1 ?_
  refine lv_iconst (v := -1) hx hb dd_HI_lookForNeeds_4 (by decide) ?_
  obtain ⟨_, x_2, c_3, hf⟩ := of_bnd hf
  refine cl_HI_53 C0 hap (tp_0_0 ho_v0) c_3 hP hS ⟨Nat.le_of_ble_eq_true rfl, Nat.le_of_ble_eq_true rfl⟩ hl.1 (Nat.le_of_ble_eq_true rfl) dd_HI_lookForNeeds_5 ⟨Nat.le_refl _, Nat.le_refl _⟩ (fun H locs hP hS => ?_)
  refine lv_iconst (v := 0) hx hb dd_HI_lookForNeeds_8 (by decide) ?_
  refine lv_istore_n (lv' := [(2, .int 0), (0, .ref (ad v0)), (1, .ref (ad v1))]) hx hb dd_HI_lookForNeeds_9 rfl hl (by decide) rfl (fun ls hl => ?_)
  exact ww_HI_lookForNeeds_10 C0 hap  FU x_2 v0 v1 0 ho_v0 ho_v1 hf _ _ _ hP hS (lv_sub hl [1, 2, 0] rfl)
theorem cc_HI_lookForNeeds {l : Launch} {E : Ev} {A : Nat → Prop} {ad : Nat → Nat} (hap : Ap ad ixC A) {x x' : St} {v0 : Nat} {v1 : Nat} {r : Unit} (ho_v0 : isO ixC v0 0) (ho_v1 : isO ixC v1 4) (hf : ff_HI_lookForNeeds x v0 v1 = some (r, x')) : Met l yy_HI_lookForNeeds (Cond.code yy_HI_lookForNeeds bb_HI_lookForNeeds 5 (none) :: gtb) rm_HI_lookForNeeds (va_Pc [.ref (ad v0), .ref (ad v1)] (PB E A ad ixC x)) (QX E ad ixC A (none) x') 0 0 A := by
  exact enter (by decide) (Nat.le_of_ble_eq_true rfl) (fun p e s m below meth c ls C0 hP hS hl => ww_HI_lookForNeeds C0 hap ho_v0 ho_v1 hf hP hS hl)
abbrev rm_HI_pairBit : Room := { frames := 0, cells := 0, slots := 0, locals := 0 }
theorem dd_HI_pairBit_0 : decode bb_HI_pairBit 0 = .ok (.lconst 1, 1) := by decide +kernel
theorem dd_HI_pairBit_1 : decode bb_HI_pairBit 1 = .ok (.iload_n 0, 1) := by decide +kernel
theorem dd_HI_pairBit_2 : decode bb_HI_pairBit 2 = .ok (.bipush 6, 2) := by decide +kernel
theorem dd_HI_pairBit_4 : decode bb_HI_pairBit 4 = .ok (.imul, 1) := by decide +kernel
theorem dd_HI_pairBit_5 : decode bb_HI_pairBit 5 = .ok (.iload_n 1, 1) := by decide +kernel
theorem dd_HI_pairBit_6 : decode bb_HI_pairBit 6 = .ok (.iadd, 1) := by decide +kernel
theorem dd_HI_pairBit_7 : decode bb_HI_pairBit 7 = .ok (.lshl, 1) := by decide +kernel
theorem dd_HI_pairBit_8 : decode bb_HI_pairBit 8 = .ok (.lreturn, 1) := by decide +kernel
def ff_HI_pairBit  (x : St) (v0 : Int32) (v1 : Int32) : Option (Int64 × St) := some ((1 : Int64) <<< (((v0 * 6) + v1 : Int32).toInt64 &&& 63), x)
set_option maxHeartbeats 4000000 in
set_option maxRecDepth 100000 in
theorem ww_HI_pairBit {p : Program} {l : Launch} {e : Env} {s : State} {m : MethodId} {args : Array Value} {below : List Frame} {meth : Method} {c : Code} {E : Ev} {A : Nat → Prop} {ad : Nat → Nat} {r : Int64} {x' : St} (C0 : Cx E A RHI bb_HI_pairBit 2 (some .long) p s m args meth c) (hap : Ap ad ixC A)  {x : St} {v0 : Int32} {v1 : Int32}  (hf : ff_HI_pairBit x v0 v1 = some (r, x')) {H : Heap} {locs : List Loc} {ls : Array Slot} (hP : Wd E ad ixC x H) (hS : va_S A s.heap H locs) (hl : lv_has ls 2 [(0, .int v0), (1, .int v1)]) : W p l e rm_HI_pairBit s m args below meth c H locs 0 0 (MQ below (QX E ad ixC A (some (.long r)) x') args s 0 0 A) (F0 m 0 ls []) := by
  obtain ⟨hx, hb, hml, hr, hown, hts, hlk, hK⟩ := id C0
  have hf : some ((1 : Int64) <<< (((v0 * 6) + v1 : Int32).toInt64 &&& 63), x) = some (r, x') := hf
  refine lv_lconst (v := 1) hx hb dd_HI_pairBit_0 (by decide) ?_
  refine lv_iload_n hx hb dd_HI_pairBit_1 rfl (lv_at hl 0 rfl) ?_
  refine lv_bipush (v := 6) hx hb dd_HI_pairBit_2 (by decide) ?_
  refine lv_imul hx hb dd_HI_pairBit_4 ?_
  refine lv_iload_n hx hb dd_HI_pairBit_5 rfl (lv_at hl 1 rfl) ?_
  refine lv_iadd hx hb dd_HI_pairBit_6 ?_
  refine lv_lshl hx hb dd_HI_pairBit_7 rfl ?_
  exact rrL C0 hP hS dd_HI_pairBit_8 hf
theorem cc_HI_pairBit {l : Launch} {E : Ev} {A : Nat → Prop} {ad : Nat → Nat} (hap : Ap ad ixC A) {x x' : St} {v0 : Int32} {v1 : Int32} {r : Int64}  (hf : ff_HI_pairBit x v0 v1 = some (r, x')) : Met l yy_HI_pairBit (Cond.code yy_HI_pairBit bb_HI_pairBit 2 (some .long) :: gtb) rm_HI_pairBit (va_Pc [.int v0, .int v1] (PB E A ad ixC x)) (QX E ad ixC A (some (.long r)) x') 0 0 A := by
  exact enter (by decide) (Nat.le_of_ble_eq_true rfl) (fun p e s m below meth c ls C0 hP hS hl => ww_HI_pairBit C0 hap  hf hP hS hl)
theorem cl_HI_79 {p : Program} {l : Launch} {e : Env} {R : Room} {s : State} {m : MethodId} {args : Array Value} {below : List Frame} {meth : Method} {c : Code} {H : Heap} {locs : List Loc} {cells slots : Nat} {Q : State → Prop} {cc : ByteArray} {pc : Nat} {ls : Array Slot} {rest : List Value} {E : Ev} {A : Nat → Prop} {ad : Nat → Nat} {nL : Nat} {rt : Option FieldType} (C0 : Cx E A RHI cc nL rt p s m args meth c) (hap : Ap ad ixC A) {x x' : St} {v0 : Nat} {v1 : Int32} {r : Option Nat} (ho_v0 : isO ixC v0 4) (hc : ff_SH_griefsOf x v0 v1 = some (r, x')) (hP : Wd E ad ixC x H) (hS : va_S A s.heap H locs) (hR : rm_SH_griefsOf.frames + 1 ≤ R.frames ∧ 8 + (2 + 11) + rm_SH_griefsOf.locals ≤ R.locals) (hls : ls.size = nL) (hroom : (rest.map fun v => v.category).sum ≤ 8) (hdg : decode cc pc = .ok (.invokevirtual 79, 3)) (hf : cells ≤ R.cells ∧ slots ≤ R.slots) (kk : ∀ H1 locs1, Wd E ad ixC x' H1 → va_S A s.heap H1 locs1 → W p l e R s m args below meth c H1 locs1 cells slots Q (F0 m (pc + 3) ls (va_re ad r :: rest))) : W p l e R s m args below meth c H locs cells slots Q (F0 m pc ls (.int v1 :: .ref (ad v0) :: rest)) :=
  rcV (n := 1) C0 (cc_SH_griefsOf hap ho_v0 hc) hP hS ho_v0 vcl_4 (by decide) gw_code_SH_griefsOf gw_m_HI_79 gw_inst_SH_griefsOf gw_sel_SH_griefsOf gw_ini_SH rfl rfl (by decide +kernel) rfl hR hls rfl hroom hdg hf (fun H1 locs1 a _ _ b => kk H1 locs1 a b)
theorem cl_HI_83 {p : Program} {l : Launch} {e : Env} {R : Room} {s : State} {m : MethodId} {args : Array Value} {below : List Frame} {meth : Method} {c : Code} {H : Heap} {locs : List Loc} {cells slots : Nat} {Q : State → Prop} {cc : ByteArray} {pc : Nat} {ls : Array Slot} {rest : List Value} {E : Ev} {A : Nat → Prop} {ad : Nat → Nat} {nL : Nat} {rt : Option FieldType} (C0 : Cx E A RHI cc nL rt p s m args meth c) (hap : Ap ad ixC A) {x x' : St} {v0 : Option Nat} {v1 : Option Nat} {v2 : Int32} {v3 : Int32} {v4 : Int32} {r : Int32} (ho_v0 : ∀ q, v0 = some q → isO ixC q 20) (ho_v1 : ∀ q, v1 = some q → isO ixC q 20) (hc : ff_SH_firstWeakDay x v0 v1 v2 v3 v4 = some (r, x')) (hP : Wd E ad ixC x H) (hS : va_S A s.heap H locs) (hR : rm_SH_firstWeakDay.frames + 1 ≤ R.frames ∧ 8 + (7 + 11) + rm_SH_firstWeakDay.locals ≤ R.locals) (hls : ls.size = nL) (hroom : (rest.map fun v => v.category).sum ≤ 8) (hdg : decode cc pc = .ok (.invokestatic 83, 3)) (hf : cells ≤ R.cells ∧ slots ≤ R.slots) (kk : ∀ H1 locs1, Wd E ad ixC x' H1 → va_S A s.heap H1 locs1 → W p l e R s m args below meth c H1 locs1 cells slots Q (F0 m (pc + 3) ls (.int r :: rest))) : W p l e R s m args below meth c H locs cells slots Q (F0 m pc ls (.int v4 :: .int v3 :: .int v2 :: va_re ad v1 :: va_re ad v0 :: rest)) :=
  rcS (n := 5) C0 (cc_SH_firstWeakDay hap ho_v0 ho_v1 hc) hP hS gw_code_SH_firstWeakDay gw_m_HI_83 gw_static_SH_firstWeakDay gw_ini_SH rfl rfl (by decide +kernel) rfl hR hls rfl hroom hdg hf (fun H1 locs1 a _ _ b => kk H1 locs1 a b)
theorem cl_HI_87 {p : Program} {l : Launch} {e : Env} {R : Room} {s : State} {m : MethodId} {args : Array Value} {below : List Frame} {meth : Method} {c : Code} {H : Heap} {locs : List Loc} {cells slots : Nat} {Q : State → Prop} {cc : ByteArray} {pc : Nat} {ls : Array Slot} {rest : List Value} {E : Ev} {A : Nat → Prop} {ad : Nat → Nat} {nL : Nat} {rt : Option FieldType} (C0 : Cx E A RHI cc nL rt p s m args meth c) (hap : Ap ad ixC A) {x x' : St} {v0 : Int32} {v1 : Int32} {r : Int64}  (hc : ff_HI_pairBit x v0 v1 = some (r, x')) (hP : Wd E ad ixC x H) (hS : va_S A s.heap H locs) (hR : rm_HI_pairBit.frames + 1 ≤ R.frames ∧ 8 + (2 + 11) + rm_HI_pairBit.locals ≤ R.locals) (hls : ls.size = nL) (hroom : (rest.map fun v => v.category).sum ≤ 8) (hdg : decode cc pc = .ok (.invokestatic 87, 3)) (hf : cells ≤ R.cells ∧ slots ≤ R.slots) (kk : ∀ H1 locs1, Wd E ad ixC x' H1 → va_S A s.heap H1 locs1 → W p l e R s m args below meth c H1 locs1 cells slots Q (F0 m (pc + 3) ls (.long r :: rest))) : W p l e R s m args below meth c H locs cells slots Q (F0 m pc ls (.int v1 :: .int v0 :: rest)) :=
  rcS (n := 2) C0 (cc_HI_pairBit hap  hc) hP hS gw_code_HI_pairBit gw_m_HI_87 gw_static_HI_pairBit gw_ini_HI rfl rfl (by decide +kernel) rfl hR hls rfl hroom hdg hf (fun H1 locs1 a _ _ b => kk H1 locs1 a b)
abbrev rm_HI_fitsOf : Room := { frames := 2, cells := 0, slots := 0, locals := 47 }
theorem dd_HI_fitsOf_0 : decode bb_HI_fitsOf 0 = .ok (.aload_n 1, 1) := by decide +kernel
theorem dd_HI_fitsOf_1 : decode bb_HI_fitsOf 1 = .ok (.getfield 76, 3) := by decide +kernel
theorem dd_HI_fitsOf_4 : decode bb_HI_fitsOf 4 = .ok (.iload_n 2, 1) := by decide +kernel
theorem dd_HI_fitsOf_5 : decode bb_HI_fitsOf 5 = .ok (.iconst 0, 1) := by decide +kernel
theorem dd_HI_fitsOf_6 : decode bb_HI_fitsOf 6 = .ok (.invokevirtual 42, 3) := by decide +kernel
theorem dd_HI_fitsOf_9 : decode bb_HI_fitsOf 9 = .ok (.istore_n 3, 1) := by decide +kernel
theorem dd_HI_fitsOf_10 : decode bb_HI_fitsOf 10 = .ok (.aload_n 0, 1) := by decide +kernel
theorem dd_HI_fitsOf_11 : decode bb_HI_fitsOf 11 = .ok (.getfield 9, 3) := by decide +kernel
theorem dd_HI_fitsOf_14 : decode bb_HI_fitsOf 14 = .ok (.iload_n 2, 1) := by decide +kernel
theorem dd_HI_fitsOf_15 : decode bb_HI_fitsOf 15 = .ok (.iaload, 1) := by decide +kernel
theorem dd_HI_fitsOf_16 : decode bb_HI_fitsOf 16 = .ok (.istore 4, 2) := by decide +kernel
theorem dd_HI_fitsOf_18 : decode bb_HI_fitsOf 18 = .ok (.lconst 0, 1) := by decide +kernel
theorem dd_HI_fitsOf_19 : decode bb_HI_fitsOf 19 = .ok (.lstore 5, 2) := by decide +kernel
theorem dd_HI_fitsOf_21 : decode bb_HI_fitsOf 21 = .ok (.iconst 0, 1) := by decide +kernel
theorem dd_HI_fitsOf_22 : decode bb_HI_fitsOf 22 = .ok (.istore 7, 2) := by decide +kernel
theorem dd_HI_fitsOf_24 : decode bb_HI_fitsOf 24 = .ok (.iload 7, 2) := by decide +kernel
theorem dd_HI_fitsOf_26 : decode bb_HI_fitsOf 26 = .ok (.aload_n 0, 1) := by decide +kernel
theorem dd_HI_fitsOf_27 : decode bb_HI_fitsOf 27 = .ok (.getfield 40, 3) := by decide +kernel
theorem dd_HI_fitsOf_30 : decode bb_HI_fitsOf 30 = .ok (.if_icmp .ge 82, 3) := by decide +kernel
theorem dd_HI_fitsOf_33 : decode bb_HI_fitsOf 33 = .ok (.iload 7, 2) := by decide +kernel
theorem dd_HI_fitsOf_35 : decode bb_HI_fitsOf 35 = .ok (.istore 8, 2) := by decide +kernel
theorem dd_HI_fitsOf_37 : decode bb_HI_fitsOf 37 = .ok (.iload 8, 2) := by decide +kernel
theorem dd_HI_fitsOf_39 : decode bb_HI_fitsOf 39 = .ok (.aload_n 0, 1) := by decide +kernel
theorem dd_HI_fitsOf_40 : decode bb_HI_fitsOf 40 = .ok (.getfield 40, 3) := by decide +kernel
theorem dd_HI_fitsOf_43 : decode bb_HI_fitsOf 43 = .ok (.if_icmp .ge 63, 3) := by decide +kernel
theorem dd_HI_fitsOf_46 : decode bb_HI_fitsOf 46 = .ok (.iload 7, 2) := by decide +kernel
theorem dd_HI_fitsOf_48 : decode bb_HI_fitsOf 48 = .ok (.iload 8, 2) := by decide +kernel
theorem dd_HI_fitsOf_50 : decode bb_HI_fitsOf 50 = .ok (.if_icmp .ne 7, 3) := by decide +kernel
theorem dd_HI_fitsOf_53 : decode bb_HI_fitsOf 53 = .ok (.aconst_null, 1) := by decide +kernel
theorem dd_HI_fitsOf_54 : decode bb_HI_fitsOf 54 = .ok (.goto 9, 3) := by decide +kernel
theorem dd_HI_fitsOf_57 : decode bb_HI_fitsOf 57 = .ok (.aload_n 1, 1) := by decide +kernel
theorem dd_HI_fitsOf_58 : decode bb_HI_fitsOf 58 = .ok (.iload 8, 2) := by decide +kernel
theorem dd_HI_fitsOf_60 : decode bb_HI_fitsOf 60 = .ok (.invokevirtual 79, 3) := by decide +kernel
theorem dd_HI_fitsOf_63 : decode bb_HI_fitsOf 63 = .ok (.astore 9, 2) := by decide +kernel
theorem dd_HI_fitsOf_65 : decode bb_HI_fitsOf 65 = .ok (.aload_n 1, 1) := by decide +kernel
theorem dd_HI_fitsOf_66 : decode bb_HI_fitsOf 66 = .ok (.iload 7, 2) := by decide +kernel
theorem dd_HI_fitsOf_68 : decode bb_HI_fitsOf 68 = .ok (.invokevirtual 79, 3) := by decide +kernel
theorem dd_HI_fitsOf_71 : decode bb_HI_fitsOf 71 = .ok (.aload 9, 2) := by decide +kernel
theorem dd_HI_fitsOf_73 : decode bb_HI_fitsOf 73 = .ok (.iload_n 3, 1) := by decide +kernel
theorem dd_HI_fitsOf_74 : decode bb_HI_fitsOf 74 = .ok (.aload_n 1, 1) := by decide +kernel
theorem dd_HI_fitsOf_75 : decode bb_HI_fitsOf 75 = .ok (.getfield 66, 3) := by decide +kernel
theorem dd_HI_fitsOf_78 : decode bb_HI_fitsOf 78 = .ok (.iload 4, 2) := by decide +kernel
theorem dd_HI_fitsOf_80 : decode bb_HI_fitsOf 80 = .ok (.invokestatic 83, 3) := by decide +kernel
theorem dd_HI_fitsOf_83 : decode bb_HI_fitsOf 83 = .ok (.iload 4, 2) := by decide +kernel
theorem dd_HI_fitsOf_85 : decode bb_HI_fitsOf 85 = .ok (.if_icmp .le 15, 3) := by decide +kernel
theorem dd_HI_fitsOf_88 : decode bb_HI_fitsOf 88 = .ok (.lload 5, 2) := by decide +kernel
theorem dd_HI_fitsOf_90 : decode bb_HI_fitsOf 90 = .ok (.iload 7, 2) := by decide +kernel
theorem dd_HI_fitsOf_92 : decode bb_HI_fitsOf 92 = .ok (.iload 8, 2) := by decide +kernel
theorem dd_HI_fitsOf_94 : decode bb_HI_fitsOf 94 = .ok (.invokestatic 87, 3) := by decide +kernel
theorem dd_HI_fitsOf_97 : decode bb_HI_fitsOf 97 = .ok (.lor, 1) := by decide +kernel
theorem dd_HI_fitsOf_98 : decode bb_HI_fitsOf 98 = .ok (.lstore 5, 2) := by decide +kernel
theorem dd_HI_fitsOf_100 : decode bb_HI_fitsOf 100 = .ok (.iinc 8 1, 3) := by decide +kernel
theorem dd_HI_fitsOf_103 : decode bb_HI_fitsOf 103 = .ok (.goto (-66), 3) := by decide +kernel
theorem dd_HI_fitsOf_106 : decode bb_HI_fitsOf 106 = .ok (.iinc 7 1, 3) := by decide +kernel
theorem dd_HI_fitsOf_109 : decode bb_HI_fitsOf 109 = .ok (.goto (-85), 3) := by decide +kernel
theorem dd_HI_fitsOf_112 : decode bb_HI_fitsOf 112 = .ok (.lload 5, 2) := by decide +kernel
theorem dd_HI_fitsOf_114 : decode bb_HI_fitsOf 114 = .ok (.lreturn, 1) := by decide +kernel
def ff_HI_fitsOf_63 (k_24 : St → Nat → Nat → Int32 → Int32 → Int64 → Int32 → Option (Int64 × St)) (k_37 : St → Nat → Nat → Int32 → Int32 → Int64 → Int32 → Int32 → Option (Int64 × St)) (x : St) (v0 : Nat) (v1 : Nat) (v3 : Int32) (v4 : Int32) (v5 : Int64) (v7 : Int32) (v8 : Int32) (w0 : Option Nat) : Option (Int64 × St) := bnd (ff_SH_griefsOf x v1 v7) (fun r_11 x_12 => bnd (ff_SH_firstWeakDay x_12 r_11 w0 v3 (gi x_12 v1 9) v4) (fun r_14 x_15 => (if r_14 ≤ v4 then k_37 x_15 v0 v1 v3 v4 v5 v7 (v8 + 1) else bnd (ff_HI_pairBit x_15 v7 v8) (fun r_18 x_19 => k_37 x_19 v0 v1 v3 v4 (v5 ||| r_18) v7 (v8 + 1)))))
def ff_HI_fitsOf_37 (k_24 : St → Nat → Nat → Int32 → Int32 → Int64 → Int32 → Option (Int64 × St)) : Nat → St → Nat → Nat → Int32 → Int32 → Int64 → Int32 → Int32 → Option (Int64 × St)
  | 0, _, _, _, _, _, _, _, _ => none
  | n + 1, x, v0, v1, v3, v4, v5, v7, v8 => (if (gi x v0 3) ≤ v8 then k_24 x v0 v1 v3 v4 v5 (v7 + 1) else (if v7 = v8 then ff_HI_fitsOf_63 k_24 (ff_HI_fitsOf_37 k_24 n) x v0 v1 v3 v4 v5 v7 v8 none else bnd (ff_SH_griefsOf x v1 v8) (fun r_8 x_9 => ff_HI_fitsOf_63 k_24 (ff_HI_fitsOf_37 k_24 n) x_9 v0 v1 v3 v4 v5 v7 v8 r_8)))
def ff_HI_fitsOf_24  : Nat → St → Nat → Nat → Int32 → Int32 → Int64 → Int32 → Option (Int64 × St)
  | 0, _, _, _, _, _, _, _ => none
  | n + 1, x, v0, v1, v3, v4, v5, v7 => (if (gi x v0 3) ≤ v7 then some (v5, x) else ff_HI_fitsOf_37 (ff_HI_fitsOf_24 n) FU x v0 v1 v3 v4 v5 v7 v7)
def ff_HI_fitsOf  (x : St) (v0 : Nat) (v1 : Nat) (v2 : Int32) : Option (Int64 × St) := bnd (ff_LE_at x (rf v1 1) v2 0) (fun r_1 x_2 => (if ixb v2 (ln (rf v0 0)) = true then ff_HI_fitsOf_24 FU x_2 v0 v1 r_1 (gi x_2 (rf v0 0) (ix v2)) 0 0 else none))
set_option maxHeartbeats 4000000 in
set_option maxRecDepth 100000 in
theorem ww_HI_fitsOf_63 {p : Program} {l : Launch} {e : Env} {s : State} {m : MethodId} {args : Array Value} {below : List Frame} {meth : Method} {c : Code} {E : Ev} {A : Nat → Prop} {ad : Nat → Nat} {r : Int64} {x' : St} (C0 : Cx E A RHI bb_HI_fitsOf 10 (some .long) p s m args meth c) (hap : Ap ad ixC A) {k_24 : St → Nat → Nat → Int32 → Int32 → Int64 → Int32 → Option (Int64 × St)} (hk_24 : ∀ (x : St) (v0 : Nat) (v1 : Nat) (v3 : Int32) (v4 : Int32) (v5 : Int64) (v7 : Int32), (isO ixC v0 0) → (isO ixC v1 4) → k_24 x v0 v1 v3 v4 v5 v7 = some (r, x') → ∀ (H : Heap) (locs : List Loc) (ls : Array Slot), Wd E ad ixC x H → va_S A s.heap H locs → lv_has ls 10 [(0, .ref (ad v0)), (1, .ref (ad v1)), (3, .int v3), (4, .int v4), (5, .long v5), (7, .int v7)] → W p l e rm_HI_fitsOf s m args below meth c H locs 0 0 (MQ below (QX E ad ixC A (some (.long r)) x') args s 0 0 A) (F0 m 24 ls [])) {k_37 : St → Nat → Nat → Int32 → Int32 → Int64 → Int32 → Int32 → Option (Int64 × St)} (hk_37 : ∀ (x : St) (v0 : Nat) (v1 : Nat) (v3 : Int32) (v4 : Int32) (v5 : Int64) (v7 : Int32) (v8 : Int32), (isO ixC v0 0) → (isO ixC v1 4) → k_37 x v0 v1 v3 v4 v5 v7 v8 = some (r, x') → ∀ (H : Heap) (locs : List Loc) (ls : Array Slot), Wd E ad ixC x H → va_S A s.heap H locs → lv_has ls 10 [(0, .ref (ad v0)), (1, .ref (ad v1)), (3, .int v3), (4, .int v4), (5, .long v5), (7, .int v7), (8, .int v8)] → W p l e rm_HI_fitsOf s m args below meth c H locs 0 0 (MQ below (QX E ad ixC A (some (.long r)) x') args s 0 0 A) (F0 m 37 ls [])) {x : St} {v0 : Nat} {v1 : Nat} {v3 : Int32} {v4 : Int32} {v5 : Int64} {v7 : Int32} {v8 : Int32} {w0 : Option Nat} (ho_v0 : isO ixC v0 0) (ho_v1 : isO ixC v1 4) (ho_w0 : ∀ q, w0 = some q → isO ixC q 20) (hf : ff_HI_fitsOf_63 k_24 k_37 x v0 v1 v3 v4 v5 v7 v8 w0 = some (r, x')) {H : Heap} {locs : List Loc} {ls : Array Slot} (hP : Wd E ad ixC x H) (hS : va_S A s.heap H locs) (hl : lv_has ls 10 [(0, .ref (ad v0)), (1, .ref (ad v1)), (3, .int v3), (4, .int v4), (5, .long v5), (7, .int v7), (8, .int v8)]) : W p l e rm_HI_fitsOf s m args below meth c H locs 0 0 (MQ below (QX E ad ixC A (some (.long r)) x') args s 0 0 A) (F0 m 63 ls [va_re ad w0]) := by
  obtain ⟨hx, hb, hml, hr, hown, hts, hlk, hK⟩ := id C0
  have hf : bnd (ff_SH_griefsOf x v1 v7) (fun r_11 x_12 => bnd (ff_SH_firstWeakDay x_12 r_11 w0 v3 (gi x_12 v1 9) v4) (fun r_14 x_15 => (if r_14 ≤ v4 then k_37 x_15 v0 v1 v3 v4 v5 v7 (v8 + 1) else bnd (ff_HI_pairBit x_15 v7 v8) (fun r_18 x_19 => k_37 x_19 v0 v1 v3 v4 (v5 ||| r_18) v7 (v8 + 1))))) = some (r, x') := hf
  refine rqS (lv' := [(9, va_re ad w0), (0, .ref (ad v0)), (1, .ref (ad v1)), (3, .int v3), (4, .int v4), (5, .long v5), (7, .int v7), (8, .int v8)]) hx hb dd_HI_fitsOf_63 hl (by decide) rfl (fun ls hl => ?_)
  refine lv_aload_n hx hb dd_HI_fitsOf_65 rfl (lv_at hl 2 rfl) ?_
  refine lv_iload hx hb dd_HI_fitsOf_66 (lv_at hl 6 rfl) ?_
  obtain ⟨r_11, x_12, c_13, hf⟩ := of_bnd hf
  refine cl_HI_79 C0 hap ho_v1 c_13 hP hS ⟨Nat.le_of_ble_eq_true rfl, Nat.le_of_ble_eq_true rfl⟩ hl.1 (Nat.le_of_ble_eq_true rfl) dd_HI_fitsOf_68 ⟨Nat.le_refl _, Nat.le_refl _⟩ (fun H locs hP hS => ?_)
  refine raQ hx hb dd_HI_fitsOf_71 (lv_at hl 0 rfl) ?_
  refine lv_iload_n hx hb dd_HI_fitsOf_73 rfl (lv_at hl 3 rfl) ?_
  refine lv_aload_n hx hb dd_HI_fitsOf_74 rfl (lv_at hl 2 rfl) ?_
  refine gf_HI_66 C0 hP ho_v1 dd_HI_fitsOf_75 ?_
  refine lv_iload hx hb dd_HI_fitsOf_78 (lv_at hl 4 rfl) ?_
  obtain ⟨r_14, x_15, c_16, hf⟩ := of_bnd hf
  refine cl_HI_83 C0 hap (qq_SH_griefsOf ho_v1 c_13) ho_w0 c_16 hP hS ⟨Nat.le_of_ble_eq_true rfl, Nat.le_of_ble_eq_true rfl⟩ hl.1 (Nat.le_of_ble_eq_true rfl) dd_HI_fitsOf_80 ⟨Nat.le_refl _, Nat.le_refl _⟩ (fun H locs hP hS => ?_)
  refine lv_iload hx hb dd_HI_fitsOf_83 (lv_at hl 4 rfl) ?_
  refine lv_icmp_le (tgt := 100) hx hb dd_HI_fitsOf_85 (by decide) (fun h_17 => ?_) (fun h_17 => ?_)
  · have hf := (if_pos h_17).symm.trans hf
    refine lv_iinc (v := v8 + 1) (lv' := [(8, .int (v8 + 1)), (9, va_re ad w0), (0, .ref (ad v0)), (1, .ref (ad v1)), (3, .int v3), (4, .int v4), (5, .long v5), (7, .int v7)]) hx hb dd_HI_fitsOf_100 hl (k := 7) rfl rfl (by decide) (by simp only [List.filter_cons, List.filter_nil, cat_re]; rfl) (fun ls hl => ?_)
    refine lv_goto (tgt := 37) hx hb dd_HI_fitsOf_103 (by decide) ?_
    exact hk_37 x_15 v0 v1 v3 v4 v5 v7 (v8 + 1) ho_v0 ho_v1 hf _ _ _ hP hS (lv_sub hl [2, 3, 4, 5, 6, 7, 0] rfl)
  · have hf := (if_neg h_17).symm.trans hf
    refine lv_lload hx hb dd_HI_fitsOf_88 (lv_at hl 5 rfl) ?_
    refine lv_iload hx hb dd_HI_fitsOf_90 (lv_at hl 6 rfl) ?_
    refine lv_iload hx hb dd_HI_fitsOf_92 (lv_at hl 7 rfl) ?_
    obtain ⟨r_18, x_19, c_20, hf⟩ := of_bnd hf
    refine cl_HI_87 C0 hap  c_20 hP hS ⟨Nat.le_of_ble_eq_true rfl, Nat.le_of_ble_eq_true rfl⟩ hl.1 (Nat.le_of_ble_eq_true rfl) dd_HI_fitsOf_94 ⟨Nat.le_refl _, Nat.le_refl _⟩ (fun H locs hP hS => ?_)
    refine lv_lor hx hb dd_HI_fitsOf_97 ?_
    refine lv_lstore (lv' := [(5, .long (v5 ||| r_18)), (9, va_re ad w0), (0, .ref (ad v0)), (1, .ref (ad v1)), (3, .int v3), (4, .int v4), (7, .int v7), (8, .int v8)]) hx hb dd_HI_fitsOf_98 hl (by decide) (by simp only [List.filter_cons, List.filter_nil, cat_re]; rfl) (fun ls hl => ?_)
    refine lv_iinc (v := v8 + 1) (lv' := [(8, .int (v8 + 1)), (5, .long (v5 ||| r_18)), (9, va_re ad w0), (0, .ref (ad v0)), (1, .ref (ad v1)), (3, .int v3), (4, .int v4), (7, .int v7)]) hx hb dd_HI_fitsOf_100 hl (k := 7) rfl rfl (by decide) (by simp only [List.filter_cons, List.filter_nil, cat_re]; rfl) (fun ls hl => ?_)
    refine lv_goto (tgt := 37) hx hb dd_HI_fitsOf_103 (by decide) ?_
    exact hk_37 x_19 v0 v1 v3 v4 (v5 ||| r_18) v7 (v8 + 1) ho_v0 ho_v1 hf _ _ _ hP hS (lv_sub hl [3, 4, 5, 6, 1, 7, 0] rfl)
set_option maxHeartbeats 4000000 in
set_option maxRecDepth 100000 in
theorem ww_HI_fitsOf_37 {p : Program} {l : Launch} {e : Env} {s : State} {m : MethodId} {args : Array Value} {below : List Frame} {meth : Method} {c : Code} {E : Ev} {A : Nat → Prop} {ad : Nat → Nat} {r : Int64} {x' : St} (C0 : Cx E A RHI bb_HI_fitsOf 10 (some .long) p s m args meth c) (hap : Ap ad ixC A) {k_24 : St → Nat → Nat → Int32 → Int32 → Int64 → Int32 → Option (Int64 × St)} (hk_24 : ∀ (x : St) (v0 : Nat) (v1 : Nat) (v3 : Int32) (v4 : Int32) (v5 : Int64) (v7 : Int32), (isO ixC v0 0) → (isO ixC v1 4) → k_24 x v0 v1 v3 v4 v5 v7 = some (r, x') → ∀ (H : Heap) (locs : List Loc) (ls : Array Slot), Wd E ad ixC x H → va_S A s.heap H locs → lv_has ls 10 [(0, .ref (ad v0)), (1, .ref (ad v1)), (3, .int v3), (4, .int v4), (5, .long v5), (7, .int v7)] → W p l e rm_HI_fitsOf s m args below meth c H locs 0 0 (MQ below (QX E ad ixC A (some (.long r)) x') args s 0 0 A) (F0 m 24 ls [])) : ∀ (n : Nat), ∀ (x : St) (v0 : Nat) (v1 : Nat) (v3 : Int32) (v4 : Int32) (v5 : Int64) (v7 : Int32) (v8 : Int32), (isO ixC v0 0) → (isO ixC v1 4) → ff_HI_fitsOf_37 k_24 n x v0 v1 v3 v4 v5 v7 v8 = some (r, x') → ∀ (H : Heap) (locs : List Loc) (ls : Array Slot), Wd E ad ixC x H → va_S A s.heap H locs → lv_has ls 10 [(0, .ref (ad v0)), (1, .ref (ad v1)), (3, .int v3), (4, .int v4), (5, .long v5), (7, .int v7), (8, .int v8)] → W p l e rm_HI_fitsOf s m args below meth c H locs 0 0 (MQ below (QX E ad ixC A (some (.long r)) x') args s 0 0 A) (F0 m 37 ls []) := by
  obtain ⟨hx, hb, hml, hr, hown, hts, hlk, hK⟩ := id C0
  intro n
  induction n with
  | zero => intro x v0 v1 v3 v4 v5 v7 v8 ho_v0 ho_v1 hf; exact of_no hf
  | succ n ih =>
    intro x v0 v1 v3 v4 v5 v7 v8 ho_v0 ho_v1 hf H locs ls hP hS hl
    have hf : (if (gi x v0 3) ≤ v8 then k_24 x v0 v1 v3 v4 v5 (v7 + 1) else (if v7 = v8 then ff_HI_fitsOf_63 k_24 (ff_HI_fitsOf_37 k_24 n) x v0 v1 v3 v4 v5 v7 v8 none else bnd (ff_SH_griefsOf x v1 v8) (fun r_8 x_9 => ff_HI_fitsOf_63 k_24 (ff_HI_fitsOf_37 k_24 n) x_9 v0 v1 v3 v4 v5 v7 v8 r_8))) = some (r, x') := hf
    refine lv_iload hx hb dd_HI_fitsOf_37 (lv_at hl 6 rfl) ?_
    refine lv_aload_n hx hb dd_HI_fitsOf_39 rfl (lv_at hl 0 rfl) ?_
    refine gf_HI_40 C0 hP ho_v0 dd_HI_fitsOf_40 ?_
    refine lv_icmp_ge (tgt := 106) hx hb dd_HI_fitsOf_43 (by decide) (fun h_6 => ?_) (fun h_6 => ?_)
    · have hf := (if_pos h_6).symm.trans hf
      refine lv_iinc (v := v7 + 1) (lv' := [(7, .int (v7 + 1)), (0, .ref (ad v0)), (1, .ref (ad v1)), (3, .int v3), (4, .int v4), (5, .long v5), (8, .int v8)]) hx hb dd_HI_fitsOf_106 hl (k := 5) rfl rfl (by decide) rfl (fun ls hl => ?_)
      refine lv_goto (tgt := 24) hx hb dd_HI_fitsOf_109 (by decide) ?_
      exact hk_24 x v0 v1 v3 v4 v5 (v7 + 1) ho_v0 ho_v1 hf _ _ _ hP hS (lv_sub hl [1, 2, 3, 4, 5, 0] rfl)
    · have hf := (if_neg h_6).symm.trans hf
      refine lv_iload hx hb dd_HI_fitsOf_46 (lv_at hl 5 rfl) ?_
      refine lv_iload hx hb dd_HI_fitsOf_48 (lv_at hl 6 rfl) ?_
      refine lv_icmp_ne (tgt := 57) hx hb dd_HI_fitsOf_50 (by decide) (fun h_7 => ?_) (fun h_7 => ?_)
      · have hf := (if_neg h_7).symm.trans hf
        refine lv_aload_n hx hb dd_HI_fitsOf_57 rfl (lv_at hl 1 rfl) ?_
        refine lv_iload hx hb dd_HI_fitsOf_58 (lv_at hl 6 rfl) ?_
        obtain ⟨r_8, x_9, c_10, hf⟩ := of_bnd hf
        refine cl_HI_79 C0 hap ho_v1 c_10 hP hS ⟨Nat.le_of_ble_eq_true rfl, Nat.le_of_ble_eq_true rfl⟩ hl.1 (Nat.le_of_ble_eq_true rfl) dd_HI_fitsOf_60 ⟨Nat.le_refl _, Nat.le_refl _⟩ (fun H locs hP hS => ?_)
        exact ww_HI_fitsOf_63 C0 hap hk_24 ih ho_v0 ho_v1 (qq_SH_griefsOf ho_v1 c_10) hf hP hS (lv_sub hl [0, 1, 2, 3, 4, 5, 6] rfl)
      · have hf := (if_pos h_7).symm.trans hf
        refine lv_null hx hb dd_HI_fitsOf_53 ?_
        refine lv_goto (tgt := 63) hx hb dd_HI_fitsOf_54 (by decide) ?_
        exact ww_HI_fitsOf_63 C0 hap hk_24 ih ho_v0 ho_v1 (fun _ h => by cases h) hf hP hS (lv_sub hl [0, 1, 2, 3, 4, 5, 6] rfl)
set_option maxHeartbeats 4000000 in
set_option maxRecDepth 100000 in
theorem ww_HI_fitsOf_24 {p : Program} {l : Launch} {e : Env} {s : State} {m : MethodId} {args : Array Value} {below : List Frame} {meth : Method} {c : Code} {E : Ev} {A : Nat → Prop} {ad : Nat → Nat} {r : Int64} {x' : St} (C0 : Cx E A RHI bb_HI_fitsOf 10 (some .long) p s m args meth c) (hap : Ap ad ixC A)  : ∀ (n : Nat), ∀ (x : St) (v0 : Nat) (v1 : Nat) (v3 : Int32) (v4 : Int32) (v5 : Int64) (v7 : Int32), (isO ixC v0 0) → (isO ixC v1 4) → ff_HI_fitsOf_24 n x v0 v1 v3 v4 v5 v7 = some (r, x') → ∀ (H : Heap) (locs : List Loc) (ls : Array Slot), Wd E ad ixC x H → va_S A s.heap H locs → lv_has ls 10 [(0, .ref (ad v0)), (1, .ref (ad v1)), (3, .int v3), (4, .int v4), (5, .long v5), (7, .int v7)] → W p l e rm_HI_fitsOf s m args below meth c H locs 0 0 (MQ below (QX E ad ixC A (some (.long r)) x') args s 0 0 A) (F0 m 24 ls []) := by
  obtain ⟨hx, hb, hml, hr, hown, hts, hlk, hK⟩ := id C0
  intro n
  induction n with
  | zero => intro x v0 v1 v3 v4 v5 v7 ho_v0 ho_v1 hf; exact of_no hf
  | succ n ih =>
    intro x v0 v1 v3 v4 v5 v7 ho_v0 ho_v1 hf H locs ls hP hS hl
    have hf : (if (gi x v0 3) ≤ v7 then some (v5, x) else ff_HI_fitsOf_37 (ff_HI_fitsOf_24 n) FU x v0 v1 v3 v4 v5 v7 v7) = some (r, x') := hf
    refine lv_iload hx hb dd_HI_fitsOf_24 (lv_at hl 5 rfl) ?_
    refine lv_aload_n hx hb dd_HI_fitsOf_26 rfl (lv_at hl 0 rfl) ?_
    refine gf_HI_40 C0 hP ho_v0 dd_HI_fitsOf_27 ?_
    refine lv_icmp_ge (tgt := 112) hx hb dd_HI_fitsOf_30 (by decide) (fun h_5 => ?_) (fun h_5 => ?_)
    · have hf := (if_pos h_5).symm.trans hf
      refine lv_lload hx hb dd_HI_fitsOf_112 (lv_at hl 4 rfl) ?_
      exact rrL C0 hP hS dd_HI_fitsOf_114 hf
    · have hf := (if_neg h_5).symm.trans hf
      refine lv_iload hx hb dd_HI_fitsOf_33 (lv_at hl 5 rfl) ?_
      refine lv_istore (lv' := [(8, .int v7), (0, .ref (ad v0)), (1, .ref (ad v1)), (3, .int v3), (4, .int v4), (5, .long v5), (7, .int v7)]) hx hb dd_HI_fitsOf_35 hl (by decide) rfl (fun ls hl => ?_)
      exact ww_HI_fitsOf_37 C0 hap ih FU x v0 v1 v3 v4 v5 v7 v7 ho_v0 ho_v1 hf _ _ _ hP hS (lv_sub hl [1, 2, 3, 4, 5, 6, 0] rfl)
set_option maxHeartbeats 4000000 in
set_option maxRecDepth 100000 in
theorem ww_HI_fitsOf {p : Program} {l : Launch} {e : Env} {s : State} {m : MethodId} {args : Array Value} {below : List Frame} {meth : Method} {c : Code} {E : Ev} {A : Nat → Prop} {ad : Nat → Nat} {r : Int64} {x' : St} (C0 : Cx E A RHI bb_HI_fitsOf 10 (some .long) p s m args meth c) (hap : Ap ad ixC A)  {x : St} {v0 : Nat} {v1 : Nat} {v2 : Int32} (ho_v0 : isO ixC v0 0) (ho_v1 : isO ixC v1 4) (hf : ff_HI_fitsOf x v0 v1 v2 = some (r, x')) {H : Heap} {locs : List Loc} {ls : Array Slot} (hP : Wd E ad ixC x H) (hS : va_S A s.heap H locs) (hl : lv_has ls 10 [(0, .ref (ad v0)), (1, .ref (ad v1)), (2, .int v2)]) : W p l e rm_HI_fitsOf s m args below meth c H locs 0 0 (MQ below (QX E ad ixC A (some (.long r)) x') args s 0 0 A) (F0 m 0 ls []) := by
  obtain ⟨hx, hb, hml, hr, hown, hts, hlk, hK⟩ := id C0
  have hf : bnd (ff_LE_at x (rf v1 1) v2 0) (fun r_1 x_2 => (if ixb v2 (ln (rf v0 0)) = true then ff_HI_fitsOf_24 FU x_2 v0 v1 r_1 (gi x_2 (rf v0 0) (ix v2)) 0 0 else none)) = some (r, x') := hf
  refine lv_aload_n hx hb dd_HI_fitsOf_0 rfl (lv_at hl 1 rfl) ?_
  refine gf_HI_76 C0 hP ho_v1 dd_HI_fitsOf_1 ?_
  refine lv_iload_n hx hb dd_HI_fitsOf_4 rfl (lv_at hl 2 rfl) ?_
  refine lv_iconst (v := 0) hx hb dd_HI_fitsOf_5 (by decide) ?_
  obtain ⟨r_1, x_2, c_3, hf⟩ := of_bnd hf
  refine cl_HI_42 C0 hap (tp_4_1 ho_v1) c_3 hP hS ⟨Nat.le_of_ble_eq_true rfl, Nat.le_of_ble_eq_true rfl⟩ hl.1 (Nat.le_of_ble_eq_true rfl) dd_HI_fitsOf_6 ⟨Nat.le_refl _, Nat.le_refl _⟩ (fun H locs hP hS => ?_)
  refine lv_istore_n (lv' := [(3, .int r_1), (0, .ref (ad v0)), (1, .ref (ad v1)), (2, .int v2)]) hx hb dd_HI_fitsOf_9 rfl hl (by decide) rfl (fun ls hl => ?_)
  refine lv_aload_n hx hb dd_HI_fitsOf_10 rfl (lv_at hl 1 rfl) ?_
  refine gf_HI_9 C0 hP ho_v0 dd_HI_fitsOf_11 ?_
  refine lv_iload_n hx hb dd_HI_fitsOf_14 rfl (lv_at hl 3 rfl) ?_
  obtain ⟨h_4, hf⟩ := of_ifb hf
  refine raI C0 hP (tp_0_0 ho_v0) h_4 dd_HI_fitsOf_15 ?_
  refine lv_istore (lv' := [(4, .int (gi x_2 (rf v0 0) (ix v2))), (3, .int r_1), (0, .ref (ad v0)), (1, .ref (ad v1)), (2, .int v2)]) hx hb dd_HI_fitsOf_16 hl (by decide) rfl (fun ls hl => ?_)
  refine lv_lconst (v := 0) hx hb dd_HI_fitsOf_18 (by decide) ?_
  refine lv_lstore (lv' := [(5, .long 0), (4, .int (gi x_2 (rf v0 0) (ix v2))), (3, .int r_1), (0, .ref (ad v0)), (1, .ref (ad v1)), (2, .int v2)]) hx hb dd_HI_fitsOf_19 hl (by decide) rfl (fun ls hl => ?_)
  refine lv_iconst (v := 0) hx hb dd_HI_fitsOf_21 (by decide) ?_
  refine lv_istore (lv' := [(7, .int 0), (5, .long 0), (4, .int (gi x_2 (rf v0 0) (ix v2))), (3, .int r_1), (0, .ref (ad v0)), (1, .ref (ad v1)), (2, .int v2)]) hx hb dd_HI_fitsOf_22 hl (by decide) rfl (fun ls hl => ?_)
  exact ww_HI_fitsOf_24 C0 hap  FU x_2 v0 v1 r_1 (gi x_2 (rf v0 0) (ix v2)) 0 0 ho_v0 ho_v1 hf _ _ _ hP hS (lv_sub hl [4, 5, 3, 2, 1, 0] rfl)
theorem cc_HI_fitsOf {l : Launch} {E : Ev} {A : Nat → Prop} {ad : Nat → Nat} (hap : Ap ad ixC A) {x x' : St} {v0 : Nat} {v1 : Nat} {v2 : Int32} {r : Int64} (ho_v0 : isO ixC v0 0) (ho_v1 : isO ixC v1 4) (hf : ff_HI_fitsOf x v0 v1 v2 = some (r, x')) : Met l yy_HI_fitsOf (Cond.code yy_HI_fitsOf bb_HI_fitsOf 10 (some .long) :: gtb) rm_HI_fitsOf (va_Pc [.ref (ad v0), .ref (ad v1), .int v2] (PB E A ad ixC x)) (QX E ad ixC A (some (.long r)) x') 0 0 A := by
  exact enter (by decide) (Nat.le_of_ble_eq_true rfl) (fun p e s m below meth c ls C0 hP hS hl => ww_HI_fitsOf C0 hap ho_v0 ho_v1 hf hP hS hl)
theorem cl_HI_45 {p : Program} {l : Launch} {e : Env} {R : Room} {s : State} {m : MethodId} {args : Array Value} {below : List Frame} {meth : Method} {c : Code} {H : Heap} {locs : List Loc} {cells slots : Nat} {Q : State → Prop} {cc : ByteArray} {pc : Nat} {ls : Array Slot} {rest : List Value} {E : Ev} {A : Nat → Prop} {ad : Nat → Nat} {nL : Nat} {rt : Option FieldType} (C0 : Cx E A RHI cc nL rt p s m args meth c) (hap : Ap ad ixC A) {x x' : St} {v0 : Nat} {v1 : Nat} {r : Unit} (ho_v0 : isO ixC v0 0) (ho_v1 : isO ixC v1 4) (hc : ff_HI_lookForNeeds x v0 v1 = some (r, x')) (hP : Wd E ad ixC x H) (hS : va_S A s.heap H locs) (hR : rm_HI_lookForNeeds.frames + 1 ≤ R.frames ∧ 8 + (5 + 11) + rm_HI_lookForNeeds.locals ≤ R.locals) (hls : ls.size = nL) (hroom : (rest.map fun v => v.category).sum ≤ 8) (hdg : decode cc pc = .ok (.invokevirtual 45, 3)) (hf : cells ≤ R.cells ∧ slots ≤ R.slots) (kk : ∀ H1 locs1, Wd E ad ixC x' H1 → va_S A s.heap H1 locs1 → W p l e R s m args below meth c H1 locs1 cells slots Q (F0 m (pc + 3) ls (rest))) : W p l e R s m args below meth c H locs cells slots Q (F0 m pc ls (.ref (ad v1) :: .ref (ad v0) :: rest)) :=
  rcV (n := 1) C0 (cc_HI_lookForNeeds hap ho_v0 ho_v1 hc) hP hS ho_v0 vcl_0 (by decide) gw_code_HI_lookForNeeds gw_m_HI_45 gw_inst_HI_lookForNeeds gw_sel_HI_lookForNeeds gw_ini_HI rfl rfl (by decide +kernel) rfl hR hls rfl hroom hdg hf (fun H1 locs1 a _ _ b => kk H1 locs1 a b)
theorem cl_HI_49 {p : Program} {l : Launch} {e : Env} {R : Room} {s : State} {m : MethodId} {args : Array Value} {below : List Frame} {meth : Method} {c : Code} {H : Heap} {locs : List Loc} {cells slots : Nat} {Q : State → Prop} {cc : ByteArray} {pc : Nat} {ls : Array Slot} {rest : List Value} {E : Ev} {A : Nat → Prop} {ad : Nat → Nat} {nL : Nat} {rt : Option FieldType} (C0 : Cx E A RHI cc nL rt p s m args meth c) (hap : Ap ad ixC A) {x x' : St} {v0 : Nat} {v1 : Nat} {v2 : Int32} {r : Int64} (ho_v0 : isO ixC v0 0) (ho_v1 : isO ixC v1 4) (hc : ff_HI_fitsOf x v0 v1 v2 = some (r, x')) (hP : Wd E ad ixC x H) (hS : va_S A s.heap H locs) (hR : rm_HI_fitsOf.frames + 1 ≤ R.frames ∧ 8 + (10 + 11) + rm_HI_fitsOf.locals ≤ R.locals) (hls : ls.size = nL) (hroom : (rest.map fun v => v.category).sum ≤ 8) (hdg : decode cc pc = .ok (.invokevirtual 49, 3)) (hf : cells ≤ R.cells ∧ slots ≤ R.slots) (kk : ∀ H1 locs1, Wd E ad ixC x' H1 → va_S A s.heap H1 locs1 → W p l e R s m args below meth c H1 locs1 cells slots Q (F0 m (pc + 3) ls (.long r :: rest))) : W p l e R s m args below meth c H locs cells slots Q (F0 m pc ls (.int v2 :: .ref (ad v1) :: .ref (ad v0) :: rest)) :=
  rcV (n := 2) C0 (cc_HI_fitsOf hap ho_v0 ho_v1 hc) hP hS ho_v0 vcl_0 (by decide) gw_code_HI_fitsOf gw_m_HI_49 gw_inst_HI_fitsOf gw_sel_HI_fitsOf gw_ini_HI rfl rfl (by decide +kernel) rfl hR hls rfl hroom hdg hf (fun H1 locs1 a _ _ b => kk H1 locs1 a b)
abbrev rm_HI_lookAt : Room := { frames := 5, cells := 0, slots := 0, locals := 118 }
theorem dd_HI_lookAt_0 : decode bb_HI_lookAt 0 = .ok (.aload_n 0, 1) := by decide +kernel
theorem dd_HI_lookAt_1 : decode bb_HI_lookAt 1 = .ok (.aload_n 1, 1) := by decide +kernel
theorem dd_HI_lookAt_2 : decode bb_HI_lookAt 2 = .ok (.getfield 22, 3) := by decide +kernel
theorem dd_HI_lookAt_5 : decode bb_HI_lookAt 5 = .ok (.getfield 28, 3) := by decide +kernel
theorem dd_HI_lookAt_8 : decode bb_HI_lookAt 8 = .ok (.bipush 6, 2) := by decide +kernel
theorem dd_HI_lookAt_10 : decode bb_HI_lookAt 10 = .ok (.invokestatic 34, 3) := by decide +kernel
theorem dd_HI_lookAt_13 : decode bb_HI_lookAt 13 = .ok (.putfield 40, 3) := by decide +kernel
theorem dd_HI_lookAt_16 : decode bb_HI_lookAt 16 = .ok (.iconst 0, 1) := by decide +kernel
theorem dd_HI_lookAt_17 : decode bb_HI_lookAt 17 = .ok (.istore_n 2, 1) := by decide +kernel
theorem dd_HI_lookAt_18 : decode bb_HI_lookAt 18 = .ok (.iload_n 2, 1) := by decide +kernel
theorem dd_HI_lookAt_19 : decode bb_HI_lookAt 19 = .ok (.aload_n 0, 1) := by decide +kernel
theorem dd_HI_lookAt_20 : decode bb_HI_lookAt 20 = .ok (.getfield 40, 3) := by decide +kernel
theorem dd_HI_lookAt_23 : decode bb_HI_lookAt 23 = .ok (.if_icmp .ge 24, 3) := by decide +kernel
theorem dd_HI_lookAt_26 : decode bb_HI_lookAt 26 = .ok (.aload_n 0, 1) := by decide +kernel
theorem dd_HI_lookAt_27 : decode bb_HI_lookAt 27 = .ok (.getfield 19, 3) := by decide +kernel
theorem dd_HI_lookAt_30 : decode bb_HI_lookAt 30 = .ok (.iload_n 2, 1) := by decide +kernel
theorem dd_HI_lookAt_31 : decode bb_HI_lookAt 31 = .ok (.aload_n 1, 1) := by decide +kernel
theorem dd_HI_lookAt_32 : decode bb_HI_lookAt 32 = .ok (.getfield 22, 3) := by decide +kernel
theorem dd_HI_lookAt_35 : decode bb_HI_lookAt 35 = .ok (.iload_n 2, 1) := by decide +kernel
theorem dd_HI_lookAt_36 : decode bb_HI_lookAt 36 = .ok (.iconst 2, 1) := by decide +kernel
theorem dd_HI_lookAt_37 : decode bb_HI_lookAt 37 = .ok (.invokevirtual 42, 3) := by decide +kernel
theorem dd_HI_lookAt_40 : decode bb_HI_lookAt 40 = .ok (.iastore, 1) := by decide +kernel
theorem dd_HI_lookAt_41 : decode bb_HI_lookAt 41 = .ok (.iinc 2 1, 3) := by decide +kernel
theorem dd_HI_lookAt_44 : decode bb_HI_lookAt 44 = .ok (.goto (-26), 3) := by decide +kernel
theorem dd_HI_lookAt_47 : decode bb_HI_lookAt 47 = .ok (.aload_n 0, 1) := by decide +kernel
theorem dd_HI_lookAt_48 : decode bb_HI_lookAt 48 = .ok (.aload_n 1, 1) := by decide +kernel
theorem dd_HI_lookAt_49 : decode bb_HI_lookAt 49 = .ok (.invokevirtual 45, 3) := by decide +kernel
theorem dd_HI_lookAt_52 : decode bb_HI_lookAt 52 = .ok (.iconst 0, 1) := by decide +kernel
theorem dd_HI_lookAt_53 : decode bb_HI_lookAt 53 = .ok (.istore_n 2, 1) := by decide +kernel
theorem dd_HI_lookAt_54 : decode bb_HI_lookAt 54 = .ok (.iload_n 2, 1) := by decide +kernel
theorem dd_HI_lookAt_55 : decode bb_HI_lookAt 55 = .ok (.bipush 6, 2) := by decide +kernel
theorem dd_HI_lookAt_57 : decode bb_HI_lookAt 57 = .ok (.if_icmp .ge 35, 3) := by decide +kernel
theorem dd_HI_lookAt_60 : decode bb_HI_lookAt 60 = .ok (.aload_n 0, 1) := by decide +kernel
theorem dd_HI_lookAt_61 : decode bb_HI_lookAt 61 = .ok (.getfield 15, 3) := by decide +kernel
theorem dd_HI_lookAt_64 : decode bb_HI_lookAt 64 = .ok (.iload_n 2, 1) := by decide +kernel
theorem dd_HI_lookAt_65 : decode bb_HI_lookAt 65 = .ok (.aload_n 0, 1) := by decide +kernel
theorem dd_HI_lookAt_66 : decode bb_HI_lookAt 66 = .ok (.getfield 9, 3) := by decide +kernel
theorem dd_HI_lookAt_69 : decode bb_HI_lookAt 69 = .ok (.iload_n 2, 1) := by decide +kernel
theorem dd_HI_lookAt_70 : decode bb_HI_lookAt 70 = .ok (.iaload, 1) := by decide +kernel
theorem dd_HI_lookAt_71 : decode bb_HI_lookAt 71 = .ok (.iconst (-1), 1) := by decide +kernel
theorem dd_HI_lookAt_72 : decode bb_HI_lookAt 72 = .ok (.if_icmp .ne 7, 3) := by decide +kernel
theorem dd_HI_lookAt_75 : decode bb_HI_lookAt 75 = .ok (.lconst 0, 1) := by decide +kernel
theorem dd_HI_lookAt_76 : decode bb_HI_lookAt 76 = .ok (.goto 9, 3) := by decide +kernel
theorem dd_HI_lookAt_79 : decode bb_HI_lookAt 79 = .ok (.aload_n 0, 1) := by decide +kernel
theorem dd_HI_lookAt_80 : decode bb_HI_lookAt 80 = .ok (.aload_n 1, 1) := by decide +kernel
theorem dd_HI_lookAt_81 : decode bb_HI_lookAt 81 = .ok (.iload_n 2, 1) := by decide +kernel
theorem dd_HI_lookAt_82 : decode bb_HI_lookAt 82 = .ok (.invokevirtual 49, 3) := by decide +kernel
theorem dd_HI_lookAt_85 : decode bb_HI_lookAt 85 = .ok (.lastore, 1) := by decide +kernel
theorem dd_HI_lookAt_86 : decode bb_HI_lookAt 86 = .ok (.iinc 2 1, 3) := by decide +kernel
theorem dd_HI_lookAt_89 : decode bb_HI_lookAt 89 = .ok (.goto (-35), 3) := by decide +kernel
theorem dd_HI_lookAt_92 : decode bb_HI_lookAt 92 = .ok (.return_, 1) := by decide +kernel
def ff_HI_lookAt_54  : Nat → St → Nat → Nat → Int32 → Option (Unit × St)
  | 0, _, _, _, _ => none
  | n + 1, x, v0, v1, v2 => (if 6 ≤ v2 then some ((), x) else (if ixb v2 (ln (rf v0 0)) = true then (if (gi x (rf v0 0) (ix v2)) = (-1) then (if ixb v2 (ln (rf v0 1)) = true then st (sl x (rf v0 1) (ix v2) 0) (fun x_15 => ff_HI_lookAt_54 n x_15 v0 v1 (v2 + 1)) else none) else bnd (ff_HI_fitsOf x v0 v1 v2) (fun r_9 x_10 => (if ixb v2 (ln (rf v0 1)) = true then st (sl x_10 (rf v0 1) (ix v2) r_9) (fun x_13 => ff_HI_lookAt_54 n x_13 v0 v1 (v2 + 1)) else none))) else none))
def ff_HI_lookAt_47  (x : St) (v0 : Nat) (v1 : Nat) : Option (Unit × St) := bnd (ff_HI_lookForNeeds x v0 v1) (fun _ x_4 => ff_HI_lookAt_54 FU x_4 v0 v1 0)
def ff_HI_lookAt_18  : Nat → St → Nat → Nat → Int32 → Option (Unit × St)
  | 0, _, _, _, _ => none
  | n + 1, x, v0, v1, v2 => (if (gi x v0 3) ≤ v2 then ff_HI_lookAt_47 x v0 v1 else bnd (ff_LE_at x (rf v1 0) v2 2) (fun r_16 x_17 => (if ixb v2 (ln (rf v0 2)) = true then st (si x_17 (rf v0 2) (ix v2) r_16) (fun x_20 => ff_HI_lookAt_18 n x_20 v0 v1 (v2 + 1)) else none)))
def ff_HI_lookAt  (x : St) (v0 : Nat) (v1 : Nat) : Option (Unit × St) := st (si x v0 3 (imin (gi x (rf v1 0) 3) 6)) (fun x_1 => ff_HI_lookAt_18 FU x_1 v0 v1 0)
set_option maxHeartbeats 4000000 in
set_option maxRecDepth 100000 in
theorem ww_HI_lookAt_54 {p : Program} {l : Launch} {e : Env} {s : State} {m : MethodId} {args : Array Value} {below : List Frame} {meth : Method} {c : Code} {E : Ev} {A : Nat → Prop} {ad : Nat → Nat} {r : Unit} {x' : St} (C0 : Cx E A RHI bb_HI_lookAt 3 (none) p s m args meth c) (hap : Ap ad ixC A)  : ∀ (n : Nat), ∀ (x : St) (v0 : Nat) (v1 : Nat) (v2 : Int32), (isO ixC v0 0) → (isO ixC v1 4) → ff_HI_lookAt_54 n x v0 v1 v2 = some (r, x') → ∀ (H : Heap) (locs : List Loc) (ls : Array Slot), Wd E ad ixC x H → va_S A s.heap H locs → lv_has ls 3 [(0, .ref (ad v0)), (1, .ref (ad v1)), (2, .int v2)] → W p l e rm_HI_lookAt s m args below meth c H locs 0 0 (MQ below (QX E ad ixC A (none) x') args s 0 0 A) (F0 m 54 ls []) := by
  obtain ⟨hx, hb, hml, hr, hown, hts, hlk, hK⟩ := id C0
  intro n
  induction n with
  | zero => intro x v0 v1 v2 ho_v0 ho_v1 hf; exact of_no hf
  | succ n ih =>
    intro x v0 v1 v2 ho_v0 ho_v1 hf H locs ls hP hS hl
    have hf : (if 6 ≤ v2 then some ((), x) else (if ixb v2 (ln (rf v0 0)) = true then (if (gi x (rf v0 0) (ix v2)) = (-1) then (if ixb v2 (ln (rf v0 1)) = true then st (sl x (rf v0 1) (ix v2) 0) (fun x_15 => ff_HI_lookAt_54 n x_15 v0 v1 (v2 + 1)) else none) else bnd (ff_HI_fitsOf x v0 v1 v2) (fun r_9 x_10 => (if ixb v2 (ln (rf v0 1)) = true then st (sl x_10 (rf v0 1) (ix v2) r_9) (fun x_13 => ff_HI_lookAt_54 n x_13 v0 v1 (v2 + 1)) else none))) else none)) = some (r, x') := hf
    refine lv_iload_n hx hb dd_HI_lookAt_54 rfl (lv_at hl 2 rfl) ?_
    refine lv_bipush (v := 6) hx hb dd_HI_lookAt_55 (by decide) ?_
    refine lv_icmp_ge (tgt := 92) hx hb dd_HI_lookAt_57 (by decide) (fun h_6 => ?_) (fun h_6 => ?_)
    · have hf := (if_pos h_6).symm.trans hf
      exact rrV C0 hP hS dd_HI_lookAt_92 hf
    · have hf := (if_neg h_6).symm.trans hf
      refine lv_aload_n hx hb dd_HI_lookAt_60 rfl (lv_at hl 0 rfl) ?_
      refine gf_HI_15 C0 hP ho_v0 dd_HI_lookAt_61 ?_
      refine lv_iload_n hx hb dd_HI_lookAt_64 rfl (lv_at hl 2 rfl) ?_
      refine lv_aload_n hx hb dd_HI_lookAt_65 rfl (lv_at hl 0 rfl) ?_
      refine gf_HI_9 C0 hP ho_v0 dd_HI_lookAt_66 ?_
      refine lv_iload_n hx hb dd_HI_lookAt_69 rfl (lv_at hl 2 rfl) ?_
      obtain ⟨h_7, hf⟩ := of_ifb hf
      refine raI C0 hP (tp_0_0 ho_v0) h_7 dd_HI_lookAt_70 ?_
      refine lv_iconst (v := -1) hx hb dd_HI_lookAt_71 (by decide) ?_
      refine lv_icmp_ne (tgt := 79) hx hb dd_HI_lookAt_72 (by decide) (fun h_8 => ?_) (fun h_8 => ?_)
      · have hf := (if_neg h_8).symm.trans hf
        refine lv_aload_n hx hb dd_HI_lookAt_79 rfl (lv_at hl 0 rfl) ?_
        refine lv_aload_n hx hb dd_HI_lookAt_80 rfl (lv_at hl 1 rfl) ?_
        refine lv_iload_n hx hb dd_HI_lookAt_81 rfl (lv_at hl 2 rfl) ?_
        obtain ⟨r_9, x_10, c_11, hf⟩ := of_bnd hf
        refine cl_HI_49 C0 hap ho_v0 ho_v1 c_11 hP hS ⟨Nat.le_of_ble_eq_true rfl, Nat.le_of_ble_eq_true rfl⟩ hl.1 (Nat.le_of_ble_eq_true rfl) dd_HI_lookAt_82 ⟨Nat.le_refl _, Nat.le_refl _⟩ (fun H locs hP hS => ?_)
        obtain ⟨h_12, hf⟩ := of_ifb hf
        obtain ⟨x_13, hx_13, hf⟩ := of_st hf
        refine sL C0 hap hP hS (tp_0_1 ho_v0) h_12 hx_13 dd_HI_lookAt_85 (fun H locs hP hS => ?_)
        refine lv_iinc (v := v2 + 1) (lv' := [(2, .int (v2 + 1)), (0, .ref (ad v0)), (1, .ref (ad v1))]) hx hb dd_HI_lookAt_86 hl (k := 2) rfl rfl (by decide) rfl (fun ls hl => ?_)
        refine lv_goto (tgt := 54) hx hb dd_HI_lookAt_89 (by decide) ?_
        exact ih x_13 v0 v1 (v2 + 1) ho_v0 ho_v1 hf _ _ _ hP hS (lv_sub hl [1, 2, 0] rfl)
      · have hf := (if_pos h_8).symm.trans hf
        refine lv_lconst (v := 0) hx hb dd_HI_lookAt_75 (by decide) ?_
        refine lv_goto (tgt := 85) hx hb dd_HI_lookAt_76 (by decide) ?_
        obtain ⟨h_14, hf⟩ := of_ifb hf
        obtain ⟨x_15, hx_15, hf⟩ := of_st hf
        refine sL C0 hap hP hS (tp_0_1 ho_v0) h_14 hx_15 dd_HI_lookAt_85 (fun H locs hP hS => ?_)
        refine lv_iinc (v := v2 + 1) (lv' := [(2, .int (v2 + 1)), (0, .ref (ad v0)), (1, .ref (ad v1))]) hx hb dd_HI_lookAt_86 hl (k := 2) rfl rfl (by decide) rfl (fun ls hl => ?_)
        refine lv_goto (tgt := 54) hx hb dd_HI_lookAt_89 (by decide) ?_
        exact ih x_15 v0 v1 (v2 + 1) ho_v0 ho_v1 hf _ _ _ hP hS (lv_sub hl [1, 2, 0] rfl)
set_option maxHeartbeats 4000000 in
set_option maxRecDepth 100000 in
theorem ww_HI_lookAt_47 {p : Program} {l : Launch} {e : Env} {s : State} {m : MethodId} {args : Array Value} {below : List Frame} {meth : Method} {c : Code} {E : Ev} {A : Nat → Prop} {ad : Nat → Nat} {r : Unit} {x' : St} (C0 : Cx E A RHI bb_HI_lookAt 3 (none) p s m args meth c) (hap : Ap ad ixC A)  {x : St} {v0 : Nat} {v1 : Nat} (ho_v0 : isO ixC v0 0) (ho_v1 : isO ixC v1 4) (hf : ff_HI_lookAt_47 x v0 v1 = some (r, x')) {H : Heap} {locs : List Loc} {ls : Array Slot} (hP : Wd E ad ixC x H) (hS : va_S A s.heap H locs) (hl : lv_has ls 3 [(0, .ref (ad v0)), (1, .ref (ad v1))]) : W p l e rm_HI_lookAt s m args below meth c H locs 0 0 (MQ below (QX E ad ixC A (none) x') args s 0 0 A) (F0 m 47 ls []) := by
  obtain ⟨hx, hb, hml, hr, hown, hts, hlk, hK⟩ := id C0
  have hf : bnd (ff_HI_lookForNeeds x v0 v1) (fun _ x_4 => ff_HI_lookAt_54 FU x_4 v0 v1 0) = some (r, x') := hf
  refine lv_aload_n hx hb dd_HI_lookAt_47 rfl (lv_at hl 0 rfl) ?_
  refine lv_aload_n hx hb dd_HI_lookAt_48 rfl (lv_at hl 1 rfl) ?_
  obtain ⟨_, x_4, c_5, hf⟩ := of_bnd hf
  refine cl_HI_45 C0 hap ho_v0 ho_v1 c_5 hP hS ⟨Nat.le_of_ble_eq_true rfl, Nat.le_of_ble_eq_true rfl⟩ hl.1 (Nat.le_of_ble_eq_true rfl) dd_HI_lookAt_49 ⟨Nat.le_refl _, Nat.le_refl _⟩ (fun H locs hP hS => ?_)
  refine lv_iconst (v := 0) hx hb dd_HI_lookAt_52 (by decide) ?_
  refine lv_istore_n (lv' := [(2, .int 0), (0, .ref (ad v0)), (1, .ref (ad v1))]) hx hb dd_HI_lookAt_53 rfl hl (by decide) rfl (fun ls hl => ?_)
  exact ww_HI_lookAt_54 C0 hap  FU x_4 v0 v1 0 ho_v0 ho_v1 hf _ _ _ hP hS (lv_sub hl [1, 2, 0] rfl)
set_option maxHeartbeats 4000000 in
set_option maxRecDepth 100000 in
theorem ww_HI_lookAt_18 {p : Program} {l : Launch} {e : Env} {s : State} {m : MethodId} {args : Array Value} {below : List Frame} {meth : Method} {c : Code} {E : Ev} {A : Nat → Prop} {ad : Nat → Nat} {r : Unit} {x' : St} (C0 : Cx E A RHI bb_HI_lookAt 3 (none) p s m args meth c) (hap : Ap ad ixC A)  : ∀ (n : Nat), ∀ (x : St) (v0 : Nat) (v1 : Nat) (v2 : Int32), (isO ixC v0 0) → (isO ixC v1 4) → ff_HI_lookAt_18 n x v0 v1 v2 = some (r, x') → ∀ (H : Heap) (locs : List Loc) (ls : Array Slot), Wd E ad ixC x H → va_S A s.heap H locs → lv_has ls 3 [(0, .ref (ad v0)), (1, .ref (ad v1)), (2, .int v2)] → W p l e rm_HI_lookAt s m args below meth c H locs 0 0 (MQ below (QX E ad ixC A (none) x') args s 0 0 A) (F0 m 18 ls []) := by
  obtain ⟨hx, hb, hml, hr, hown, hts, hlk, hK⟩ := id C0
  intro n
  induction n with
  | zero => intro x v0 v1 v2 ho_v0 ho_v1 hf; exact of_no hf
  | succ n ih =>
    intro x v0 v1 v2 ho_v0 ho_v1 hf H locs ls hP hS hl
    have hf : (if (gi x v0 3) ≤ v2 then ff_HI_lookAt_47 x v0 v1 else bnd (ff_LE_at x (rf v1 0) v2 2) (fun r_16 x_17 => (if ixb v2 (ln (rf v0 2)) = true then st (si x_17 (rf v0 2) (ix v2) r_16) (fun x_20 => ff_HI_lookAt_18 n x_20 v0 v1 (v2 + 1)) else none))) = some (r, x') := hf
    refine lv_iload_n hx hb dd_HI_lookAt_18 rfl (lv_at hl 2 rfl) ?_
    refine lv_aload_n hx hb dd_HI_lookAt_19 rfl (lv_at hl 0 rfl) ?_
    refine gf_HI_40 C0 hP ho_v0 dd_HI_lookAt_20 ?_
    refine lv_icmp_ge (tgt := 47) hx hb dd_HI_lookAt_23 (by decide) (fun h_2 => ?_) (fun h_2 => ?_)
    · have hf := (if_pos h_2).symm.trans hf
      exact ww_HI_lookAt_47 C0 hap  ho_v0 ho_v1 hf hP hS (lv_sub hl [0, 1] rfl)
    · have hf := (if_neg h_2).symm.trans hf
      refine lv_aload_n hx hb dd_HI_lookAt_26 rfl (lv_at hl 0 rfl) ?_
      refine gf_HI_19 C0 hP ho_v0 dd_HI_lookAt_27 ?_
      refine lv_iload_n hx hb dd_HI_lookAt_30 rfl (lv_at hl 2 rfl) ?_
      refine lv_aload_n hx hb dd_HI_lookAt_31 rfl (lv_at hl 1 rfl) ?_
      refine gf_HI_22 C0 hP ho_v1 dd_HI_lookAt_32 ?_
      refine lv_iload_n hx hb dd_HI_lookAt_35 rfl (lv_at hl 2 rfl) ?_
      refine lv_iconst (v := 2) hx hb dd_HI_lookAt_36 (by decide) ?_
      obtain ⟨r_16, x_17, c_18, hf⟩ := of_bnd hf
      refine cl_HI_42 C0 hap (tp_4_0 ho_v1) c_18 hP hS ⟨Nat.le_of_ble_eq_true rfl, Nat.le_of_ble_eq_true rfl⟩ hl.1 (Nat.le_of_ble_eq_true rfl) dd_HI_lookAt_37 ⟨Nat.le_refl _, Nat.le_refl _⟩ (fun H locs hP hS => ?_)
      obtain ⟨h_19, hf⟩ := of_ifb hf
      obtain ⟨x_20, hx_20, hf⟩ := of_st hf
      refine sI C0 hap hP hS (tp_0_2 ho_v0) h_19 hx_20 dd_HI_lookAt_40 (fun H locs hP hS => ?_)
      refine lv_iinc (v := v2 + 1) (lv' := [(2, .int (v2 + 1)), (0, .ref (ad v0)), (1, .ref (ad v1))]) hx hb dd_HI_lookAt_41 hl (k := 2) rfl rfl (by decide) rfl (fun ls hl => ?_)
      refine lv_goto (tgt := 18) hx hb dd_HI_lookAt_44 (by decide) ?_
      exact ih x_20 v0 v1 (v2 + 1) ho_v0 ho_v1 hf _ _ _ hP hS (lv_sub hl [1, 2, 0] rfl)
set_option maxHeartbeats 4000000 in
set_option maxRecDepth 100000 in
theorem ww_HI_lookAt {p : Program} {l : Launch} {e : Env} {s : State} {m : MethodId} {args : Array Value} {below : List Frame} {meth : Method} {c : Code} {E : Ev} {A : Nat → Prop} {ad : Nat → Nat} {r : Unit} {x' : St} (C0 : Cx E A RHI bb_HI_lookAt 3 (none) p s m args meth c) (hap : Ap ad ixC A)  {x : St} {v0 : Nat} {v1 : Nat} (ho_v0 : isO ixC v0 0) (ho_v1 : isO ixC v1 4) (hf : ff_HI_lookAt x v0 v1 = some (r, x')) {H : Heap} {locs : List Loc} {ls : Array Slot} (hP : Wd E ad ixC x H) (hS : va_S A s.heap H locs) (hl : lv_has ls 3 [(0, .ref (ad v0)), (1, .ref (ad v1))]) : W p l e rm_HI_lookAt s m args below meth c H locs 0 0 (MQ below (QX E ad ixC A (none) x') args s 0 0 A) (F0 m 0 ls []) := by
  obtain ⟨hx, hb, hml, hr, hown, hts, hlk, hK⟩ := id C0
  have hf : st (si x v0 3 (imin (gi x (rf v1 0) 3) 6)) (fun x_1 => ff_HI_lookAt_18 FU x_1 v0 v1 0) = some (r, x') := hf
  refine lv_aload_n hx hb dd_HI_lookAt_0 rfl (lv_at hl 0 rfl) ?_
  refine lv_aload_n hx hb dd_HI_lookAt_1 rfl (lv_at hl 1 rfl) ?_
  refine gf_HI_22 C0 hP ho_v1 dd_HI_lookAt_2 ?_
  refine gf_HI_28 C0 hP (tp_4_0 ho_v1) dd_HI_lookAt_5 ?_
  refine lv_bipush (v := 6) hx hb dd_HI_lookAt_8 (by decide) ?_
  refine rmin C0 hl.1 gw_m_HI_34 (Nat.le_of_ble_eq_true rfl) ⟨Nat.le_of_ble_eq_true rfl, Nat.le_of_ble_eq_true rfl⟩ ⟨Nat.le_refl _, Nat.le_refl _⟩ dd_HI_lookAt_10 ?_
  obtain ⟨x_1, hx_1, hf⟩ := of_st hf
  refine pf_HI_40 C0 hap hP hS ho_v0 hx_1 dd_HI_lookAt_13 (fun H locs hP hS => ?_)
  refine lv_iconst (v := 0) hx hb dd_HI_lookAt_16 (by decide) ?_
  refine lv_istore_n (lv' := [(2, .int 0), (0, .ref (ad v0)), (1, .ref (ad v1))]) hx hb dd_HI_lookAt_17 rfl hl (by decide) rfl (fun ls hl => ?_)
  exact ww_HI_lookAt_18 C0 hap  FU x_1 v0 v1 0 ho_v0 ho_v1 hf _ _ _ hP hS (lv_sub hl [1, 2, 0] rfl)
theorem cc_HI_lookAt {l : Launch} {E : Ev} {A : Nat → Prop} {ad : Nat → Nat} (hap : Ap ad ixC A) {x x' : St} {v0 : Nat} {v1 : Nat} {r : Unit} (ho_v0 : isO ixC v0 0) (ho_v1 : isO ixC v1 4) (hf : ff_HI_lookAt x v0 v1 = some (r, x')) : Met l yy_HI_lookAt (Cond.code yy_HI_lookAt bb_HI_lookAt 3 (none) :: gtb) rm_HI_lookAt (va_Pc [.ref (ad v0), .ref (ad v1)] (PB E A ad ixC x)) (QX E ad ixC A (none) x') 0 0 A := by
  exact enter (by decide) (Nat.le_of_ble_eq_true rfl) (fun p e s m below meth c ls C0 hP hS hl => ww_HI_lookAt C0 hap ho_v0 ho_v1 hf hP hS hl)
theorem cl_HI_91 {p : Program} {l : Launch} {e : Env} {R : Room} {s : State} {m : MethodId} {args : Array Value} {below : List Frame} {meth : Method} {c : Code} {H : Heap} {locs : List Loc} {cells slots : Nat} {Q : State → Prop} {cc : ByteArray} {pc : Nat} {ls : Array Slot} {rest : List Value} {E : Ev} {A : Nat → Prop} {ad : Nat → Nat} {nL : Nat} {rt : Option FieldType} (C0 : Cx E A RHI cc nL rt p s m args meth c) (hap : Ap ad ixC A) {x x' : St} {v0 : Int32} {v1 : Int32} {v2 : Int32} {r : Int32}  (hc : ff_GG_isWithin x v0 v1 v2 = some (r, x')) (hP : Wd E ad ixC x H) (hS : va_S A s.heap H locs) (hR : rm_GG_isWithin.frames + 1 ≤ R.frames ∧ 8 + (3 + 11) + rm_GG_isWithin.locals ≤ R.locals) (hls : ls.size = nL) (hroom : (rest.map fun v => v.category).sum ≤ 8) (hdg : decode cc pc = .ok (.invokestatic 91, 3)) (hf : cells ≤ R.cells ∧ slots ≤ R.slots) (kk : ∀ H1 locs1, Wd E ad ixC x' H1 → va_S A s.heap H1 locs1 → W p l e R s m args below meth c H1 locs1 cells slots Q (F0 m (pc + 3) ls (.int r :: rest))) : W p l e R s m args below meth c H locs cells slots Q (F0 m pc ls (.int v2 :: .int v1 :: .int v0 :: rest)) :=
  rcSN (n := 3) C0 (cc_GG_isWithin hap  hc) hP hS gw_code_GG_isWithin gw_m_HI_91 gw_static_GG_isWithin gw_ini_GG rfl rfl (by decide +kernel) rfl hR hls rfl hroom hdg hf (fun H1 locs1 a _ _ b => kk H1 locs1 a b)
abbrev rm_HI_isNeedy : Room := { frames := 1, cells := 0, slots := 0, locals := 22 }
theorem dd_HI_isNeedy_0 : decode bb_HI_isNeedy 0 = .ok (.iload_n 1, 1) := by decide +kernel
theorem dd_HI_isNeedy_1 : decode bb_HI_isNeedy 1 = .ok (.iconst 0, 1) := by decide +kernel
theorem dd_HI_isNeedy_2 : decode bb_HI_isNeedy 2 = .ok (.iconst 5, 1) := by decide +kernel
theorem dd_HI_isNeedy_3 : decode bb_HI_isNeedy 3 = .ok (.invokestatic 91, 3) := by decide +kernel
theorem dd_HI_isNeedy_6 : decode bb_HI_isNeedy 6 = .ok (.ifCond .eq 17, 3) := by decide +kernel
theorem dd_HI_isNeedy_9 : decode bb_HI_isNeedy 9 = .ok (.aload_n 0, 1) := by decide +kernel
theorem dd_HI_isNeedy_10 : decode bb_HI_isNeedy 10 = .ok (.getfield 9, 3) := by decide +kernel
theorem dd_HI_isNeedy_13 : decode bb_HI_isNeedy 13 = .ok (.iload_n 1, 1) := by decide +kernel
theorem dd_HI_isNeedy_14 : decode bb_HI_isNeedy 14 = .ok (.iaload, 1) := by decide +kernel
theorem dd_HI_isNeedy_15 : decode bb_HI_isNeedy 15 = .ok (.iconst (-1), 1) := by decide +kernel
theorem dd_HI_isNeedy_16 : decode bb_HI_isNeedy 16 = .ok (.if_icmp .eq 7, 3) := by decide +kernel
theorem dd_HI_isNeedy_19 : decode bb_HI_isNeedy 19 = .ok (.iconst 1, 1) := by decide +kernel
theorem dd_HI_isNeedy_20 : decode bb_HI_isNeedy 20 = .ok (.goto 4, 3) := by decide +kernel
theorem dd_HI_isNeedy_23 : decode bb_HI_isNeedy 23 = .ok (.iconst 0, 1) := by decide +kernel
theorem dd_HI_isNeedy_24 : decode bb_HI_isNeedy 24 = .ok (.ireturn, 1) := by decide +kernel
def ff_HI_isNeedy  (x : St) (v0 : Nat) (v1 : Int32) : Option (Int32 × St) := bnd (ff_GG_isWithin x v1 0 5) (fun r_1 x_2 => (if r_1 = 0 then some (0, x_2) else (if ixb v1 (ln (rf v0 0)) = true then (if (gi x_2 (rf v0 0) (ix v1)) = (-1) then some (0, x_2) else some (1, x_2)) else none)))
set_option maxHeartbeats 4000000 in
set_option maxRecDepth 100000 in
theorem ww_HI_isNeedy {p : Program} {l : Launch} {e : Env} {s : State} {m : MethodId} {args : Array Value} {below : List Frame} {meth : Method} {c : Code} {E : Ev} {A : Nat → Prop} {ad : Nat → Nat} {r : Int32} {x' : St} (C0 : Cx E A RHI bb_HI_isNeedy 2 (some .boolean) p s m args meth c) (hap : Ap ad ixC A)  {x : St} {v0 : Nat} {v1 : Int32} (ho_v0 : isO ixC v0 0) (hf : ff_HI_isNeedy x v0 v1 = some (r, x')) {H : Heap} {locs : List Loc} {ls : Array Slot} (hP : Wd E ad ixC x H) (hS : va_S A s.heap H locs) (hl : lv_has ls 2 [(0, .ref (ad v0)), (1, .int v1)]) : W p l e rm_HI_isNeedy s m args below meth c H locs 0 0 (MQ below (QX E ad ixC A (some (.int r)) x') args s 0 0 A) (F0 m 0 ls []) := by
  obtain ⟨hx, hb, hml, hr, hown, hts, hlk, hK⟩ := id C0
  have hf : bnd (ff_GG_isWithin x v1 0 5) (fun r_1 x_2 => (if r_1 = 0 then some (0, x_2) else (if ixb v1 (ln (rf v0 0)) = true then (if (gi x_2 (rf v0 0) (ix v1)) = (-1) then some (0, x_2) else some (1, x_2)) else none))) = some (r, x') := hf
  refine lv_iload_n hx hb dd_HI_isNeedy_0 rfl (lv_at hl 1 rfl) ?_
  refine lv_iconst (v := 0) hx hb dd_HI_isNeedy_1 (by decide) ?_
  refine lv_iconst (v := 5) hx hb dd_HI_isNeedy_2 (by decide) ?_
  obtain ⟨r_1, x_2, c_3, hf⟩ := of_bnd hf
  refine cl_HI_91 C0 hap  c_3 hP hS ⟨Nat.le_of_ble_eq_true rfl, Nat.le_of_ble_eq_true rfl⟩ hl.1 (Nat.le_of_ble_eq_true rfl) dd_HI_isNeedy_3 ⟨Nat.le_refl _, Nat.le_refl _⟩ (fun H locs hP hS => ?_)
  refine lv_if_eq (tgt := 23) hx hb dd_HI_isNeedy_6 (by decide) (fun h_4 => ?_) (fun h_4 => ?_)
  · have hf := (if_pos h_4).symm.trans hf
    refine lv_iconst (v := 0) hx hb dd_HI_isNeedy_23 (by decide) ?_
    exact rrZ C0 hP hS (by decide) dd_HI_isNeedy_24 hf
  · have hf := (if_neg h_4).symm.trans hf
    refine lv_aload_n hx hb dd_HI_isNeedy_9 rfl (lv_at hl 0 rfl) ?_
    refine gf_HI_9 C0 hP ho_v0 dd_HI_isNeedy_10 ?_
    refine lv_iload_n hx hb dd_HI_isNeedy_13 rfl (lv_at hl 1 rfl) ?_
    obtain ⟨h_5, hf⟩ := of_ifb hf
    refine raI C0 hP (tp_0_0 ho_v0) h_5 dd_HI_isNeedy_14 ?_
    refine lv_iconst (v := -1) hx hb dd_HI_isNeedy_15 (by decide) ?_
    refine lv_icmp_eq (tgt := 23) hx hb dd_HI_isNeedy_16 (by decide) (fun h_6 => ?_) (fun h_6 => ?_)
    · have hf := (if_pos h_6).symm.trans hf
      refine lv_iconst (v := 0) hx hb dd_HI_isNeedy_23 (by decide) ?_
      exact rrZ C0 hP hS (by decide) dd_HI_isNeedy_24 hf
    · have hf := (if_neg h_6).symm.trans hf
      refine lv_iconst (v := 1) hx hb dd_HI_isNeedy_19 (by decide) ?_
      refine lv_goto (tgt := 24) hx hb dd_HI_isNeedy_20 (by decide) ?_
      exact rrZ C0 hP hS (by decide) dd_HI_isNeedy_24 hf
theorem cc_HI_isNeedy {l : Launch} {E : Ev} {A : Nat → Prop} {ad : Nat → Nat} (hap : Ap ad ixC A) {x x' : St} {v0 : Nat} {v1 : Int32} {r : Int32} (ho_v0 : isO ixC v0 0) (hf : ff_HI_isNeedy x v0 v1 = some (r, x')) : Met l yy_HI_isNeedy (Cond.code yy_HI_isNeedy bb_HI_isNeedy 2 (some .boolean) :: gtb) rm_HI_isNeedy (va_Pc [.ref (ad v0), .int v1] (PB E A ad ixC x)) (QX E ad ixC A (some (.int r)) x') 0 0 A := by
  exact enter (by decide) (Nat.le_of_ble_eq_true rfl) (fun p e s m below meth c ls C0 hP hS hl => ww_HI_isNeedy C0 hap ho_v0 hf hP hS hl)
abbrev rm_HI_isIn : Room := { frames := 0, cells := 0, slots := 0, locals := 0 }
theorem dd_HI_isIn_0 : decode bb_HI_isIn 0 = .ok (.iload_n 1, 1) := by decide +kernel
theorem dd_HI_isIn_1 : decode bb_HI_isIn 1 = .ok (.iload_n 0, 1) := by decide +kernel
theorem dd_HI_isIn_2 : decode bb_HI_isIn 2 = .ok (.ishr, 1) := by decide +kernel
theorem dd_HI_isIn_3 : decode bb_HI_isIn 3 = .ok (.iconst 1, 1) := by decide +kernel
theorem dd_HI_isIn_4 : decode bb_HI_isIn 4 = .ok (.iand, 1) := by decide +kernel
theorem dd_HI_isIn_5 : decode bb_HI_isIn 5 = .ok (.iconst 1, 1) := by decide +kernel
theorem dd_HI_isIn_6 : decode bb_HI_isIn 6 = .ok (.if_icmp .ne 7, 3) := by decide +kernel
theorem dd_HI_isIn_9 : decode bb_HI_isIn 9 = .ok (.iconst 1, 1) := by decide +kernel
theorem dd_HI_isIn_10 : decode bb_HI_isIn 10 = .ok (.goto 4, 3) := by decide +kernel
theorem dd_HI_isIn_13 : decode bb_HI_isIn 13 = .ok (.iconst 0, 1) := by decide +kernel
theorem dd_HI_isIn_14 : decode bb_HI_isIn 14 = .ok (.ireturn, 1) := by decide +kernel
def ff_HI_isIn  (x : St) (v0 : Int32) (v1 : Int32) : Option (Int32 × St) := (if ((v1 >>> (v0 &&& 31)) &&& 1) = 1 then some (1, x) else some (0, x))
set_option maxHeartbeats 4000000 in
set_option maxRecDepth 100000 in
theorem ww_HI_isIn {p : Program} {l : Launch} {e : Env} {s : State} {m : MethodId} {args : Array Value} {below : List Frame} {meth : Method} {c : Code} {E : Ev} {A : Nat → Prop} {ad : Nat → Nat} {r : Int32} {x' : St} (C0 : Cx E A RHI bb_HI_isIn 2 (some .boolean) p s m args meth c) (hap : Ap ad ixC A)  {x : St} {v0 : Int32} {v1 : Int32}  (hf : ff_HI_isIn x v0 v1 = some (r, x')) {H : Heap} {locs : List Loc} {ls : Array Slot} (hP : Wd E ad ixC x H) (hS : va_S A s.heap H locs) (hl : lv_has ls 2 [(0, .int v0), (1, .int v1)]) : W p l e rm_HI_isIn s m args below meth c H locs 0 0 (MQ below (QX E ad ixC A (some (.int r)) x') args s 0 0 A) (F0 m 0 ls []) := by
  obtain ⟨hx, hb, hml, hr, hown, hts, hlk, hK⟩ := id C0
  have hf : (if ((v1 >>> (v0 &&& 31)) &&& 1) = 1 then some (1, x) else some (0, x)) = some (r, x') := hf
  refine lv_iload_n hx hb dd_HI_isIn_0 rfl (lv_at hl 1 rfl) ?_
  refine lv_iload_n hx hb dd_HI_isIn_1 rfl (lv_at hl 0 rfl) ?_
  refine lv_ishr hx hb dd_HI_isIn_2 ?_
  refine lv_iconst (v := 1) hx hb dd_HI_isIn_3 (by decide) ?_
  refine lv_iand hx hb dd_HI_isIn_4 ?_
  refine lv_iconst (v := 1) hx hb dd_HI_isIn_5 (by decide) ?_
  refine lv_icmp_ne (tgt := 13) hx hb dd_HI_isIn_6 (by decide) (fun h_1 => ?_) (fun h_1 => ?_)
  · have hf := (if_neg h_1).symm.trans hf
    refine lv_iconst (v := 0) hx hb dd_HI_isIn_13 (by decide) ?_
    exact rrZ C0 hP hS (by decide) dd_HI_isIn_14 hf
  · have hf := (if_pos h_1).symm.trans hf
    refine lv_iconst (v := 1) hx hb dd_HI_isIn_9 (by decide) ?_
    refine lv_goto (tgt := 14) hx hb dd_HI_isIn_10 (by decide) ?_
    exact rrZ C0 hP hS (by decide) dd_HI_isIn_14 hf
theorem cc_HI_isIn {l : Launch} {E : Ev} {A : Nat → Prop} {ad : Nat → Nat} (hap : Ap ad ixC A) {x x' : St} {v0 : Int32} {v1 : Int32} {r : Int32}  (hf : ff_HI_isIn x v0 v1 = some (r, x')) : Met l yy_HI_isIn (Cond.code yy_HI_isIn bb_HI_isIn 2 (some .boolean) :: gtb) rm_HI_isIn (va_Pc [.int v0, .int v1] (PB E A ad ixC x)) (QX E ad ixC A (some (.int r)) x') 0 0 A := by
  exact enter (by decide) (Nat.le_of_ble_eq_true rfl) (fun p e s m below meth c ls C0 hP hS hl => ww_HI_isIn C0 hap  hf hP hS hl)
theorem cl_HI_95 {p : Program} {l : Launch} {e : Env} {R : Room} {s : State} {m : MethodId} {args : Array Value} {below : List Frame} {meth : Method} {c : Code} {H : Heap} {locs : List Loc} {cells slots : Nat} {Q : State → Prop} {cc : ByteArray} {pc : Nat} {ls : Array Slot} {rest : List Value} {E : Ev} {A : Nat → Prop} {ad : Nat → Nat} {nL : Nat} {rt : Option FieldType} (C0 : Cx E A RHI cc nL rt p s m args meth c) (hap : Ap ad ixC A) {x x' : St} {v0 : Int32} {v1 : Int32} {r : Int32}  (hc : ff_HI_isIn x v0 v1 = some (r, x')) (hP : Wd E ad ixC x H) (hS : va_S A s.heap H locs) (hR : rm_HI_isIn.frames + 1 ≤ R.frames ∧ 8 + (2 + 11) + rm_HI_isIn.locals ≤ R.locals) (hls : ls.size = nL) (hroom : (rest.map fun v => v.category).sum ≤ 8) (hdg : decode cc pc = .ok (.invokestatic 95, 3)) (hf : cells ≤ R.cells ∧ slots ≤ R.slots) (kk : ∀ H1 locs1, Wd E ad ixC x' H1 → va_S A s.heap H1 locs1 → W p l e R s m args below meth c H1 locs1 cells slots Q (F0 m (pc + 3) ls (.int r :: rest))) : W p l e R s m args below meth c H locs cells slots Q (F0 m pc ls (.int v1 :: .int v0 :: rest)) :=
  rcS (n := 2) C0 (cc_HI_isIn hap  hc) hP hS gw_code_HI_isIn gw_m_HI_95 gw_static_HI_isIn gw_ini_HI rfl rfl (by decide +kernel) rfl hR hls rfl hroom hdg hf (fun H1 locs1 a _ _ b => kk H1 locs1 a b)
abbrev rm_HI_priceOf : Room := { frames := 1, cells := 0, slots := 0, locals := 21 }
theorem dd_HI_priceOf_0 : decode bb_HI_priceOf 0 = .ok (.iconst 0, 1) := by decide +kernel
theorem dd_HI_priceOf_1 : decode bb_HI_priceOf 1 = .ok (.istore_n 2, 1) := by decide +kernel
theorem dd_HI_priceOf_2 : decode bb_HI_priceOf 2 = .ok (.iconst 0, 1) := by decide +kernel
theorem dd_HI_priceOf_3 : decode bb_HI_priceOf 3 = .ok (.istore_n 3, 1) := by decide +kernel
theorem dd_HI_priceOf_4 : decode bb_HI_priceOf 4 = .ok (.iload_n 3, 1) := by decide +kernel
theorem dd_HI_priceOf_5 : decode bb_HI_priceOf 5 = .ok (.aload_n 0, 1) := by decide +kernel
theorem dd_HI_priceOf_6 : decode bb_HI_priceOf 6 = .ok (.getfield 40, 3) := by decide +kernel
theorem dd_HI_priceOf_9 : decode bb_HI_priceOf 9 = .ok (.if_icmp .ge 26, 3) := by decide +kernel
theorem dd_HI_priceOf_12 : decode bb_HI_priceOf 12 = .ok (.iload_n 3, 1) := by decide +kernel
theorem dd_HI_priceOf_13 : decode bb_HI_priceOf 13 = .ok (.iload_n 1, 1) := by decide +kernel
theorem dd_HI_priceOf_14 : decode bb_HI_priceOf 14 = .ok (.invokestatic 95, 3) := by decide +kernel
theorem dd_HI_priceOf_17 : decode bb_HI_priceOf 17 = .ok (.ifCond .eq 12, 3) := by decide +kernel
theorem dd_HI_priceOf_20 : decode bb_HI_priceOf 20 = .ok (.iload_n 2, 1) := by decide +kernel
theorem dd_HI_priceOf_21 : decode bb_HI_priceOf 21 = .ok (.aload_n 0, 1) := by decide +kernel
theorem dd_HI_priceOf_22 : decode bb_HI_priceOf 22 = .ok (.getfield 19, 3) := by decide +kernel
theorem dd_HI_priceOf_25 : decode bb_HI_priceOf 25 = .ok (.iload_n 3, 1) := by decide +kernel
theorem dd_HI_priceOf_26 : decode bb_HI_priceOf 26 = .ok (.iaload, 1) := by decide +kernel
theorem dd_HI_priceOf_27 : decode bb_HI_priceOf 27 = .ok (.iadd, 1) := by decide +kernel
theorem dd_HI_priceOf_28 : decode bb_HI_priceOf 28 = .ok (.istore_n 2, 1) := by decide +kernel
theorem dd_HI_priceOf_29 : decode bb_HI_priceOf 29 = .ok (.iinc 3 1, 3) := by decide +kernel
theorem dd_HI_priceOf_32 : decode bb_HI_priceOf 32 = .ok (.goto (-28), 3) := by decide +kernel
theorem dd_HI_priceOf_35 : decode bb_HI_priceOf 35 = .ok (.iload_n 2, 1) := by decide +kernel
theorem dd_HI_priceOf_36 : decode bb_HI_priceOf 36 = .ok (.ireturn, 1) := by decide +kernel
def ff_HI_priceOf_4  : Nat → St → Nat → Int32 → Int32 → Int32 → Option (Int32 × St)
  | 0, _, _, _, _, _ => none
  | n + 1, x, v0, v1, v2, v3 => (if (gi x v0 3) ≤ v3 then some (v2, x) else bnd (ff_HI_isIn x v3 v1) (fun r_2 x_3 => (if r_2 = 0 then ff_HI_priceOf_4 n x_3 v0 v1 v2 (v3 + 1) else (if ixb v3 (ln (rf v0 2)) = true then li (v2 + (gi x_3 (rf v0 2) (ix v3))) (fun u_7 => ff_HI_priceOf_4 n x_3 v0 v1 u_7 (v3 + 1)) else none))))
def ff_HI_priceOf  (x : St) (v0 : Nat) (v1 : Int32) : Option (Int32 × St) := ff_HI_priceOf_4 FU x v0 v1 0 0
set_option maxHeartbeats 4000000 in
set_option maxRecDepth 100000 in
theorem ww_HI_priceOf_4 {p : Program} {l : Launch} {e : Env} {s : State} {m : MethodId} {args : Array Value} {below : List Frame} {meth : Method} {c : Code} {E : Ev} {A : Nat → Prop} {ad : Nat → Nat} {r : Int32} {x' : St} (C0 : Cx E A RHI bb_HI_priceOf 4 (some .int) p s m args meth c) (hap : Ap ad ixC A)  : ∀ (n : Nat), ∀ (x : St) (v0 : Nat) (v1 : Int32) (v2 : Int32) (v3 : Int32), (isO ixC v0 0) → ff_HI_priceOf_4 n x v0 v1 v2 v3 = some (r, x') → ∀ (H : Heap) (locs : List Loc) (ls : Array Slot), Wd E ad ixC x H → va_S A s.heap H locs → lv_has ls 4 [(0, .ref (ad v0)), (1, .int v1), (2, .int v2), (3, .int v3)] → W p l e rm_HI_priceOf s m args below meth c H locs 0 0 (MQ below (QX E ad ixC A (some (.int r)) x') args s 0 0 A) (F0 m 4 ls []) := by
  obtain ⟨hx, hb, hml, hr, hown, hts, hlk, hK⟩ := id C0
  intro n
  induction n with
  | zero => intro x v0 v1 v2 v3 ho_v0 hf; exact of_no hf
  | succ n ih =>
    intro x v0 v1 v2 v3 ho_v0 hf H locs ls hP hS hl
    have hf : (if (gi x v0 3) ≤ v3 then some (v2, x) else bnd (ff_HI_isIn x v3 v1) (fun r_2 x_3 => (if r_2 = 0 then ff_HI_priceOf_4 n x_3 v0 v1 v2 (v3 + 1) else (if ixb v3 (ln (rf v0 2)) = true then li (v2 + (gi x_3 (rf v0 2) (ix v3))) (fun u_7 => ff_HI_priceOf_4 n x_3 v0 v1 u_7 (v3 + 1)) else none)))) = some (r, x') := hf
    refine lv_iload_n hx hb dd_HI_priceOf_4 rfl (lv_at hl 3 rfl) ?_
    refine lv_aload_n hx hb dd_HI_priceOf_5 rfl (lv_at hl 0 rfl) ?_
    refine gf_HI_40 C0 hP ho_v0 dd_HI_priceOf_6 ?_
    refine lv_icmp_ge (tgt := 35) hx hb dd_HI_priceOf_9 (by decide) (fun h_1 => ?_) (fun h_1 => ?_)
    · have hf := (if_pos h_1).symm.trans hf
      refine lv_iload_n hx hb dd_HI_priceOf_35 rfl (lv_at hl 2 rfl) ?_
      exact rrI C0 hP hS dd_HI_priceOf_36 hf
    · have hf := (if_neg h_1).symm.trans hf
      refine lv_iload_n hx hb dd_HI_priceOf_12 rfl (lv_at hl 3 rfl) ?_
      refine lv_iload_n hx hb dd_HI_priceOf_13 rfl (lv_at hl 1 rfl) ?_
      obtain ⟨r_2, x_3, c_4, hf⟩ := of_bnd hf
      refine cl_HI_95 C0 hap  c_4 hP hS ⟨Nat.le_of_ble_eq_true rfl, Nat.le_of_ble_eq_true rfl⟩ hl.1 (Nat.le_of_ble_eq_true rfl) dd_HI_priceOf_14 ⟨Nat.le_refl _, Nat.le_refl _⟩ (fun H locs hP hS => ?_)
      refine lv_if_eq (tgt := 29) hx hb dd_HI_priceOf_17 (by decide) (fun h_5 => ?_) (fun h_5 => ?_)
      · have hf := (if_pos h_5).symm.trans hf
        refine lv_iinc (v := v3 + 1) (lv' := [(3, .int (v3 + 1)), (0, .ref (ad v0)), (1, .int v1), (2, .int v2)]) hx hb dd_HI_priceOf_29 hl (k := 3) rfl rfl (by decide) rfl (fun ls hl => ?_)
        refine lv_goto (tgt := 4) hx hb dd_HI_priceOf_32 (by decide) ?_
        exact ih x_3 v0 v1 v2 (v3 + 1) ho_v0 hf _ _ _ hP hS (lv_sub hl [1, 2, 3, 0] rfl)
      · have hf := (if_neg h_5).symm.trans hf
        refine lv_iload_n hx hb dd_HI_priceOf_20 rfl (lv_at hl 2 rfl) ?_
        refine lv_aload_n hx hb dd_HI_priceOf_21 rfl (lv_at hl 0 rfl) ?_
        refine gf_HI_19 C0 hP ho_v0 dd_HI_priceOf_22 ?_
        refine lv_iload_n hx hb dd_HI_priceOf_25 rfl (lv_at hl 3 rfl) ?_
        obtain ⟨h_6, hf⟩ := of_ifb hf
        refine raI C0 hP (tp_0_2 ho_v0) h_6 dd_HI_priceOf_26 ?_
        refine lv_iadd hx hb dd_HI_priceOf_27 ?_
        obtain ⟨u_7, eu_7, hf⟩ := of_li hf
        refine tpi eu_7 ?_
        refine lv_istore_n (lv' := [(2, .int u_7), (0, .ref (ad v0)), (1, .int v1), (3, .int v3)]) hx hb dd_HI_priceOf_28 rfl hl (by decide) rfl (fun ls hl => ?_)
        refine lv_iinc (v := v3 + 1) (lv' := [(3, .int (v3 + 1)), (2, .int u_7), (0, .ref (ad v0)), (1, .int v1)]) hx hb dd_HI_priceOf_29 hl (k := 3) rfl rfl (by decide) rfl (fun ls hl => ?_)
        refine lv_goto (tgt := 4) hx hb dd_HI_priceOf_32 (by decide) ?_
        exact ih x_3 v0 v1 u_7 (v3 + 1) ho_v0 hf _ _ _ hP hS (lv_sub hl [2, 3, 1, 0] rfl)
set_option maxHeartbeats 4000000 in
set_option maxRecDepth 100000 in
theorem ww_HI_priceOf {p : Program} {l : Launch} {e : Env} {s : State} {m : MethodId} {args : Array Value} {below : List Frame} {meth : Method} {c : Code} {E : Ev} {A : Nat → Prop} {ad : Nat → Nat} {r : Int32} {x' : St} (C0 : Cx E A RHI bb_HI_priceOf 4 (some .int) p s m args meth c) (hap : Ap ad ixC A)  {x : St} {v0 : Nat} {v1 : Int32} (ho_v0 : isO ixC v0 0) (hf : ff_HI_priceOf x v0 v1 = some (r, x')) {H : Heap} {locs : List Loc} {ls : Array Slot} (hP : Wd E ad ixC x H) (hS : va_S A s.heap H locs) (hl : lv_has ls 4 [(0, .ref (ad v0)), (1, .int v1)]) : W p l e rm_HI_priceOf s m args below meth c H locs 0 0 (MQ below (QX E ad ixC A (some (.int r)) x') args s 0 0 A) (F0 m 0 ls []) := by
  obtain ⟨hx, hb, hml, hr, hown, hts, hlk, hK⟩ := id C0
  have hf : ff_HI_priceOf_4 FU x v0 v1 0 0 = some (r, x') := hf
  refine lv_iconst (v := 0) hx hb dd_HI_priceOf_0 (by decide) ?_
  refine lv_istore_n (lv' := [(2, .int 0), (0, .ref (ad v0)), (1, .int v1)]) hx hb dd_HI_priceOf_1 rfl hl (by decide) rfl (fun ls hl => ?_)
  refine lv_iconst (v := 0) hx hb dd_HI_priceOf_2 (by decide) ?_
  refine lv_istore_n (lv' := [(3, .int 0), (2, .int 0), (0, .ref (ad v0)), (1, .int v1)]) hx hb dd_HI_priceOf_3 rfl hl (by decide) rfl (fun ls hl => ?_)
  exact ww_HI_priceOf_4 C0 hap  FU x v0 v1 0 0 ho_v0 hf _ _ _ hP hS (lv_sub hl [2, 3, 1, 0] rfl)
theorem cc_HI_priceOf {l : Launch} {E : Ev} {A : Nat → Prop} {ad : Nat → Nat} (hap : Ap ad ixC A) {x x' : St} {v0 : Nat} {v1 : Int32} {r : Int32} (ho_v0 : isO ixC v0 0) (hf : ff_HI_priceOf x v0 v1 = some (r, x')) : Met l yy_HI_priceOf (Cond.code yy_HI_priceOf bb_HI_priceOf 4 (some .int) :: gtb) rm_HI_priceOf (va_Pc [.ref (ad v0), .int v1] (PB E A ad ixC x)) (QX E ad ixC A (some (.int r)) x') 0 0 A := by
  exact enter (by decide) (Nat.le_of_ble_eq_true rfl) (fun p e s m below meth c ls C0 hP hS hl => ww_HI_priceOf C0 hap ho_v0 hf hP hS hl)
abbrev rm_HI_boilersFor : Room := { frames := 1, cells := 0, slots := 0, locals := 22 }
theorem dd_HI_boilersFor_0 : decode bb_HI_boilersFor 0 = .ok (.iload_n 1, 1) := by decide +kernel
theorem dd_HI_boilersFor_1 : decode bb_HI_boilersFor 1 = .ok (.iconst 0, 1) := by decide +kernel
theorem dd_HI_boilersFor_2 : decode bb_HI_boilersFor 2 = .ok (.iconst 5, 1) := by decide +kernel
theorem dd_HI_boilersFor_3 : decode bb_HI_boilersFor 3 = .ok (.invokestatic 91, 3) := by decide +kernel
theorem dd_HI_boilersFor_6 : decode bb_HI_boilersFor 6 = .ok (.ifCond .ne 5, 3) := by decide +kernel
theorem dd_HI_boilersFor_9 : decode bb_HI_boilersFor 9 = .ok (.iconst (-1), 1) := by decide +kernel
theorem dd_HI_boilersFor_10 : decode bb_HI_boilersFor 10 = .ok (.ireturn, 1) := by decide +kernel
theorem dd_HI_boilersFor_11 : decode bb_HI_boilersFor 11 = .ok (.iconst 0, 1) := by decide +kernel
theorem dd_HI_boilersFor_12 : decode bb_HI_boilersFor 12 = .ok (.istore_n 3, 1) := by decide +kernel
theorem dd_HI_boilersFor_13 : decode bb_HI_boilersFor 13 = .ok (.iload_n 3, 1) := by decide +kernel
theorem dd_HI_boilersFor_14 : decode bb_HI_boilersFor 14 = .ok (.aload_n 0, 1) := by decide +kernel
theorem dd_HI_boilersFor_15 : decode bb_HI_boilersFor 15 = .ok (.getfield 40, 3) := by decide +kernel
theorem dd_HI_boilersFor_18 : decode bb_HI_boilersFor 18 = .ok (.if_icmp .ge 39, 3) := by decide +kernel
theorem dd_HI_boilersFor_21 : decode bb_HI_boilersFor 21 = .ok (.iload_n 3, 1) := by decide +kernel
theorem dd_HI_boilersFor_22 : decode bb_HI_boilersFor 22 = .ok (.iload_n 2, 1) := by decide +kernel
theorem dd_HI_boilersFor_23 : decode bb_HI_boilersFor 23 = .ok (.invokestatic 95, 3) := by decide +kernel
theorem dd_HI_boilersFor_26 : decode bb_HI_boilersFor 26 = .ok (.ifCond .eq 25, 3) := by decide +kernel
theorem dd_HI_boilersFor_29 : decode bb_HI_boilersFor 29 = .ok (.aload_n 0, 1) := by decide +kernel
theorem dd_HI_boilersFor_30 : decode bb_HI_boilersFor 30 = .ok (.getfield 15, 3) := by decide +kernel
theorem dd_HI_boilersFor_33 : decode bb_HI_boilersFor 33 = .ok (.iload_n 1, 1) := by decide +kernel
theorem dd_HI_boilersFor_34 : decode bb_HI_boilersFor 34 = .ok (.laload, 1) := by decide +kernel
theorem dd_HI_boilersFor_35 : decode bb_HI_boilersFor 35 = .ok (.iload_n 3, 1) := by decide +kernel
theorem dd_HI_boilersFor_36 : decode bb_HI_boilersFor 36 = .ok (.iload_n 3, 1) := by decide +kernel
theorem dd_HI_boilersFor_37 : decode bb_HI_boilersFor 37 = .ok (.invokestatic 87, 3) := by decide +kernel
theorem dd_HI_boilersFor_40 : decode bb_HI_boilersFor 40 = .ok (.land, 1) := by decide +kernel
theorem dd_HI_boilersFor_41 : decode bb_HI_boilersFor 41 = .ok (.lconst 0, 1) := by decide +kernel
theorem dd_HI_boilersFor_42 : decode bb_HI_boilersFor 42 = .ok (.lcmp, 1) := by decide +kernel
theorem dd_HI_boilersFor_43 : decode bb_HI_boilersFor 43 = .ok (.ifCond .eq 8, 3) := by decide +kernel
theorem dd_HI_boilersFor_46 : decode bb_HI_boilersFor 46 = .ok (.bipush 60, 2) := by decide +kernel
theorem dd_HI_boilersFor_48 : decode bb_HI_boilersFor 48 = .ok (.iload_n 3, 1) := by decide +kernel
theorem dd_HI_boilersFor_49 : decode bb_HI_boilersFor 49 = .ok (.iadd, 1) := by decide +kernel
theorem dd_HI_boilersFor_50 : decode bb_HI_boilersFor 50 = .ok (.ireturn, 1) := by decide +kernel
theorem dd_HI_boilersFor_51 : decode bb_HI_boilersFor 51 = .ok (.iinc 3 1, 3) := by decide +kernel
theorem dd_HI_boilersFor_54 : decode bb_HI_boilersFor 54 = .ok (.goto (-41), 3) := by decide +kernel
theorem dd_HI_boilersFor_57 : decode bb_HI_boilersFor 57 = .ok (.iconst 0, 1) := by decide +kernel
theorem dd_HI_boilersFor_58 : decode bb_HI_boilersFor 58 = .ok (.istore_n 3, 1) := by decide +kernel
theorem dd_HI_boilersFor_59 : decode bb_HI_boilersFor 59 = .ok (.iload_n 3, 1) := by decide +kernel
theorem dd_HI_boilersFor_60 : decode bb_HI_boilersFor 60 = .ok (.aload_n 0, 1) := by decide +kernel
theorem dd_HI_boilersFor_61 : decode bb_HI_boilersFor 61 = .ok (.getfield 40, 3) := by decide +kernel
theorem dd_HI_boilersFor_64 : decode bb_HI_boilersFor 64 = .ok (.if_icmp .ge 72, 3) := by decide +kernel
theorem dd_HI_boilersFor_67 : decode bb_HI_boilersFor 67 = .ok (.iload_n 3, 1) := by decide +kernel
theorem dd_HI_boilersFor_68 : decode bb_HI_boilersFor 68 = .ok (.iconst 1, 1) := by decide +kernel
theorem dd_HI_boilersFor_69 : decode bb_HI_boilersFor 69 = .ok (.iadd, 1) := by decide +kernel
theorem dd_HI_boilersFor_70 : decode bb_HI_boilersFor 70 = .ok (.istore 4, 2) := by decide +kernel
theorem dd_HI_boilersFor_72 : decode bb_HI_boilersFor 72 = .ok (.iload 4, 2) := by decide +kernel
theorem dd_HI_boilersFor_74 : decode bb_HI_boilersFor 74 = .ok (.aload_n 0, 1) := by decide +kernel
theorem dd_HI_boilersFor_75 : decode bb_HI_boilersFor 75 = .ok (.getfield 40, 3) := by decide +kernel
theorem dd_HI_boilersFor_78 : decode bb_HI_boilersFor 78 = .ok (.if_icmp .ge 52, 3) := by decide +kernel
theorem dd_HI_boilersFor_81 : decode bb_HI_boilersFor 81 = .ok (.iload_n 3, 1) := by decide +kernel
theorem dd_HI_boilersFor_82 : decode bb_HI_boilersFor 82 = .ok (.iload_n 2, 1) := by decide +kernel
theorem dd_HI_boilersFor_83 : decode bb_HI_boilersFor 83 = .ok (.invokestatic 95, 3) := by decide +kernel
theorem dd_HI_boilersFor_86 : decode bb_HI_boilersFor 86 = .ok (.ifCond .eq 38, 3) := by decide +kernel
theorem dd_HI_boilersFor_89 : decode bb_HI_boilersFor 89 = .ok (.iload 4, 2) := by decide +kernel
theorem dd_HI_boilersFor_91 : decode bb_HI_boilersFor 91 = .ok (.iload_n 2, 1) := by decide +kernel
theorem dd_HI_boilersFor_92 : decode bb_HI_boilersFor 92 = .ok (.invokestatic 95, 3) := by decide +kernel
theorem dd_HI_boilersFor_95 : decode bb_HI_boilersFor 95 = .ok (.ifCond .eq 29, 3) := by decide +kernel
theorem dd_HI_boilersFor_98 : decode bb_HI_boilersFor 98 = .ok (.aload_n 0, 1) := by decide +kernel
theorem dd_HI_boilersFor_99 : decode bb_HI_boilersFor 99 = .ok (.getfield 15, 3) := by decide +kernel
theorem dd_HI_boilersFor_102 : decode bb_HI_boilersFor 102 = .ok (.iload_n 1, 1) := by decide +kernel
theorem dd_HI_boilersFor_103 : decode bb_HI_boilersFor 103 = .ok (.laload, 1) := by decide +kernel
theorem dd_HI_boilersFor_104 : decode bb_HI_boilersFor 104 = .ok (.iload_n 3, 1) := by decide +kernel
theorem dd_HI_boilersFor_105 : decode bb_HI_boilersFor 105 = .ok (.iload 4, 2) := by decide +kernel
theorem dd_HI_boilersFor_107 : decode bb_HI_boilersFor 107 = .ok (.invokestatic 87, 3) := by decide +kernel
theorem dd_HI_boilersFor_110 : decode bb_HI_boilersFor 110 = .ok (.land, 1) := by decide +kernel
theorem dd_HI_boilersFor_111 : decode bb_HI_boilersFor 111 = .ok (.lconst 0, 1) := by decide +kernel
theorem dd_HI_boilersFor_112 : decode bb_HI_boilersFor 112 = .ok (.lcmp, 1) := by decide +kernel
theorem dd_HI_boilersFor_113 : decode bb_HI_boilersFor 113 = .ok (.ifCond .eq 11, 3) := by decide +kernel
theorem dd_HI_boilersFor_116 : decode bb_HI_boilersFor 116 = .ok (.bipush 10, 2) := by decide +kernel
theorem dd_HI_boilersFor_118 : decode bb_HI_boilersFor 118 = .ok (.iload_n 3, 1) := by decide +kernel
theorem dd_HI_boilersFor_119 : decode bb_HI_boilersFor 119 = .ok (.imul, 1) := by decide +kernel
theorem dd_HI_boilersFor_120 : decode bb_HI_boilersFor 120 = .ok (.iload 4, 2) := by decide +kernel
theorem dd_HI_boilersFor_122 : decode bb_HI_boilersFor 122 = .ok (.iadd, 1) := by decide +kernel
theorem dd_HI_boilersFor_123 : decode bb_HI_boilersFor 123 = .ok (.ireturn, 1) := by decide +kernel
theorem dd_HI_boilersFor_124 : decode bb_HI_boilersFor 124 = .ok (.iinc 4 1, 3) := by decide +kernel
theorem dd_HI_boilersFor_127 : decode bb_HI_boilersFor 127 = .ok (.goto (-55), 3) := by decide +kernel
theorem dd_HI_boilersFor_130 : decode bb_HI_boilersFor 130 = .ok (.iinc 3 1, 3) := by decide +kernel
theorem dd_HI_boilersFor_133 : decode bb_HI_boilersFor 133 = .ok (.goto (-74), 3) := by decide +kernel
theorem dd_HI_boilersFor_136 : decode bb_HI_boilersFor 136 = .ok (.iconst (-1), 1) := by decide +kernel
theorem dd_HI_boilersFor_137 : decode bb_HI_boilersFor 137 = .ok (.ireturn, 1) := by decide +kernel
def ff_HI_boilersFor_116  (x : St) (v3 : Int32) (v4 : Int32) : Option (Int32 × St) := some ((10 * v3) + v4, x)
def ff_HI_boilersFor_72 (k_59 : St → Nat → Int32 → Int32 → Int32 → Option (Int32 × St)) : Nat → St → Nat → Int32 → Int32 → Int32 → Int32 → Option (Int32 × St)
  | 0, _, _, _, _, _, _ => none
  | n + 1, x, v0, v1, v2, v3, v4 => (if (gi x v0 3) ≤ v4 then k_59 x v0 v1 v2 (v3 + 1) else bnd (ff_HI_isIn x v3 v2) (fun r_8 x_9 => (if r_8 = 0 then ff_HI_boilersFor_72 k_59 n x_9 v0 v1 v2 v3 (v4 + 1) else bnd (ff_HI_isIn x_9 v4 v2) (fun r_12 x_13 => (if r_12 = 0 then ff_HI_boilersFor_72 k_59 n x_13 v0 v1 v2 v3 (v4 + 1) else (if ixb v1 (ln (rf v0 1)) = true then bnd (ff_HI_pairBit x_13 v3 v4) (fun r_17 x_18 => (if (lg_cmp ((gl x_13 (rf v0 1) (ix v1)) &&& r_17) 0) = 0 then ff_HI_boilersFor_72 k_59 n x_18 v0 v1 v2 v3 (v4 + 1) else ff_HI_boilersFor_116 x_18 v3 v4)) else none))))))
def ff_HI_boilersFor_59  : Nat → St → Nat → Int32 → Int32 → Int32 → Option (Int32 × St)
  | 0, _, _, _, _, _ => none
  | n + 1, x, v0, v1, v2, v3 => (if (gi x v0 3) ≤ v3 then some ((-1), x) else ff_HI_boilersFor_72 (ff_HI_boilersFor_59 n) FU x v0 v1 v2 v3 (v3 + 1))
def ff_HI_boilersFor_13  : Nat → St → Nat → Int32 → Int32 → Int32 → Option (Int32 × St)
  | 0, _, _, _, _, _ => none
  | n + 1, x, v0, v1, v2, v3 => (if (gi x v0 3) ≤ v3 then ff_HI_boilersFor_59 FU x v0 v1 v2 0 else bnd (ff_HI_isIn x v3 v2) (fun r_21 x_22 => (if r_21 = 0 then ff_HI_boilersFor_13 n x_22 v0 v1 v2 (v3 + 1) else (if ixb v1 (ln (rf v0 1)) = true then bnd (ff_HI_pairBit x_22 v3 v3) (fun r_26 x_27 => (if (lg_cmp ((gl x_22 (rf v0 1) (ix v1)) &&& r_26) 0) = 0 then ff_HI_boilersFor_13 n x_27 v0 v1 v2 (v3 + 1) else some (60 + v3, x_27))) else none))))
def ff_HI_boilersFor  (x : St) (v0 : Nat) (v1 : Int32) (v2 : Int32) : Option (Int32 × St) := bnd (ff_GG_isWithin x v1 0 5) (fun r_1 x_2 => (if r_1 = 0 then some ((-1), x_2) else ff_HI_boilersFor_13 FU x_2 v0 v1 v2 0))
set_option maxHeartbeats 4000000 in
set_option maxRecDepth 100000 in
theorem ww_HI_boilersFor_116 {p : Program} {l : Launch} {e : Env} {s : State} {m : MethodId} {args : Array Value} {below : List Frame} {meth : Method} {c : Code} {E : Ev} {A : Nat → Prop} {ad : Nat → Nat} {r : Int32} {x' : St} (C0 : Cx E A RHI bb_HI_boilersFor 5 (some .int) p s m args meth c) (hap : Ap ad ixC A)  {x : St} {v3 : Int32} {v4 : Int32}  (hf : ff_HI_boilersFor_116 x v3 v4 = some (r, x')) {H : Heap} {locs : List Loc} {ls : Array Slot} (hP : Wd E ad ixC x H) (hS : va_S A s.heap H locs) (hl : lv_has ls 5 [(3, .int v3), (4, .int v4)]) : W p l e rm_HI_boilersFor s m args below meth c H locs 0 0 (MQ below (QX E ad ixC A (some (.int r)) x') args s 0 0 A) (F0 m 116 ls []) := by
  obtain ⟨hx, hb, hml, hr, hown, hts, hlk, hK⟩ := id C0
  have hf : some ((10 * v3) + v4, x) = some (r, x') := hf
  refine lv_bipush (v := 10) hx hb dd_HI_boilersFor_116 (by decide) ?_
  refine lv_iload_n hx hb dd_HI_boilersFor_118 rfl (lv_at hl 0 rfl) ?_
  refine lv_imul hx hb dd_HI_boilersFor_119 ?_
  refine lv_iload hx hb dd_HI_boilersFor_120 (lv_at hl 1 rfl) ?_
  refine lv_iadd hx hb dd_HI_boilersFor_122 ?_
  exact rrI C0 hP hS dd_HI_boilersFor_123 hf
set_option maxHeartbeats 4000000 in
set_option maxRecDepth 100000 in
theorem ww_HI_boilersFor_72 {p : Program} {l : Launch} {e : Env} {s : State} {m : MethodId} {args : Array Value} {below : List Frame} {meth : Method} {c : Code} {E : Ev} {A : Nat → Prop} {ad : Nat → Nat} {r : Int32} {x' : St} (C0 : Cx E A RHI bb_HI_boilersFor 5 (some .int) p s m args meth c) (hap : Ap ad ixC A) {k_59 : St → Nat → Int32 → Int32 → Int32 → Option (Int32 × St)} (hk_59 : ∀ (x : St) (v0 : Nat) (v1 : Int32) (v2 : Int32) (v3 : Int32), (isO ixC v0 0) → k_59 x v0 v1 v2 v3 = some (r, x') → ∀ (H : Heap) (locs : List Loc) (ls : Array Slot), Wd E ad ixC x H → va_S A s.heap H locs → lv_has ls 5 [(0, .ref (ad v0)), (1, .int v1), (2, .int v2), (3, .int v3)] → W p l e rm_HI_boilersFor s m args below meth c H locs 0 0 (MQ below (QX E ad ixC A (some (.int r)) x') args s 0 0 A) (F0 m 59 ls [])) : ∀ (n : Nat), ∀ (x : St) (v0 : Nat) (v1 : Int32) (v2 : Int32) (v3 : Int32) (v4 : Int32), (isO ixC v0 0) → ff_HI_boilersFor_72 k_59 n x v0 v1 v2 v3 v4 = some (r, x') → ∀ (H : Heap) (locs : List Loc) (ls : Array Slot), Wd E ad ixC x H → va_S A s.heap H locs → lv_has ls 5 [(0, .ref (ad v0)), (1, .int v1), (2, .int v2), (3, .int v3), (4, .int v4)] → W p l e rm_HI_boilersFor s m args below meth c H locs 0 0 (MQ below (QX E ad ixC A (some (.int r)) x') args s 0 0 A) (F0 m 72 ls []) := by
  obtain ⟨hx, hb, hml, hr, hown, hts, hlk, hK⟩ := id C0
  intro n
  induction n with
  | zero => intro x v0 v1 v2 v3 v4 ho_v0 hf; exact of_no hf
  | succ n ih =>
    intro x v0 v1 v2 v3 v4 ho_v0 hf H locs ls hP hS hl
    have hf : (if (gi x v0 3) ≤ v4 then k_59 x v0 v1 v2 (v3 + 1) else bnd (ff_HI_isIn x v3 v2) (fun r_8 x_9 => (if r_8 = 0 then ff_HI_boilersFor_72 k_59 n x_9 v0 v1 v2 v3 (v4 + 1) else bnd (ff_HI_isIn x_9 v4 v2) (fun r_12 x_13 => (if r_12 = 0 then ff_HI_boilersFor_72 k_59 n x_13 v0 v1 v2 v3 (v4 + 1) else (if ixb v1 (ln (rf v0 1)) = true then bnd (ff_HI_pairBit x_13 v3 v4) (fun r_17 x_18 => (if (lg_cmp ((gl x_13 (rf v0 1) (ix v1)) &&& r_17) 0) = 0 then ff_HI_boilersFor_72 k_59 n x_18 v0 v1 v2 v3 (v4 + 1) else ff_HI_boilersFor_116 x_18 v3 v4)) else none)))))) = some (r, x') := hf
    refine lv_iload hx hb dd_HI_boilersFor_72 (lv_at hl 4 rfl) ?_
    refine lv_aload_n hx hb dd_HI_boilersFor_74 rfl (lv_at hl 0 rfl) ?_
    refine gf_HI_40 C0 hP ho_v0 dd_HI_boilersFor_75 ?_
    refine lv_icmp_ge (tgt := 130) hx hb dd_HI_boilersFor_78 (by decide) (fun h_7 => ?_) (fun h_7 => ?_)
    · have hf := (if_pos h_7).symm.trans hf
      refine lv_iinc (v := v3 + 1) (lv' := [(3, .int (v3 + 1)), (0, .ref (ad v0)), (1, .int v1), (2, .int v2), (4, .int v4)]) hx hb dd_HI_boilersFor_130 hl (k := 3) rfl rfl (by decide) rfl (fun ls hl => ?_)
      refine lv_goto (tgt := 59) hx hb dd_HI_boilersFor_133 (by decide) ?_
      exact hk_59 x v0 v1 v2 (v3 + 1) ho_v0 hf _ _ _ hP hS (lv_sub hl [1, 2, 3, 0] rfl)
    · have hf := (if_neg h_7).symm.trans hf
      refine lv_iload_n hx hb dd_HI_boilersFor_81 rfl (lv_at hl 3 rfl) ?_
      refine lv_iload_n hx hb dd_HI_boilersFor_82 rfl (lv_at hl 2 rfl) ?_
      obtain ⟨r_8, x_9, c_10, hf⟩ := of_bnd hf
      refine cl_HI_95 C0 hap  c_10 hP hS ⟨Nat.le_of_ble_eq_true rfl, Nat.le_of_ble_eq_true rfl⟩ hl.1 (Nat.le_of_ble_eq_true rfl) dd_HI_boilersFor_83 ⟨Nat.le_refl _, Nat.le_refl _⟩ (fun H locs hP hS => ?_)
      refine lv_if_eq (tgt := 124) hx hb dd_HI_boilersFor_86 (by decide) (fun h_11 => ?_) (fun h_11 => ?_)
      · have hf := (if_pos h_11).symm.trans hf
        refine lv_iinc (v := v4 + 1) (lv' := [(4, .int (v4 + 1)), (0, .ref (ad v0)), (1, .int v1), (2, .int v2), (3, .int v3)]) hx hb dd_HI_boilersFor_124 hl (k := 4) rfl rfl (by decide) rfl (fun ls hl => ?_)
        refine lv_goto (tgt := 72) hx hb dd_HI_boilersFor_127 (by decide) ?_
        exact ih x_9 v0 v1 v2 v3 (v4 + 1) ho_v0 hf _ _ _ hP hS (lv_sub hl [1, 2, 3, 4, 0] rfl)
      · have hf := (if_neg h_11).symm.trans hf
        refine lv_iload hx hb dd_HI_boilersFor_89 (lv_at hl 4 rfl) ?_
        refine lv_iload_n hx hb dd_HI_boilersFor_91 rfl (lv_at hl 2 rfl) ?_
        obtain ⟨r_12, x_13, c_14, hf⟩ := of_bnd hf
        refine cl_HI_95 C0 hap  c_14 hP hS ⟨Nat.le_of_ble_eq_true rfl, Nat.le_of_ble_eq_true rfl⟩ hl.1 (Nat.le_of_ble_eq_true rfl) dd_HI_boilersFor_92 ⟨Nat.le_refl _, Nat.le_refl _⟩ (fun H locs hP hS => ?_)
        refine lv_if_eq (tgt := 124) hx hb dd_HI_boilersFor_95 (by decide) (fun h_15 => ?_) (fun h_15 => ?_)
        · have hf := (if_pos h_15).symm.trans hf
          refine lv_iinc (v := v4 + 1) (lv' := [(4, .int (v4 + 1)), (0, .ref (ad v0)), (1, .int v1), (2, .int v2), (3, .int v3)]) hx hb dd_HI_boilersFor_124 hl (k := 4) rfl rfl (by decide) rfl (fun ls hl => ?_)
          refine lv_goto (tgt := 72) hx hb dd_HI_boilersFor_127 (by decide) ?_
          exact ih x_13 v0 v1 v2 v3 (v4 + 1) ho_v0 hf _ _ _ hP hS (lv_sub hl [1, 2, 3, 4, 0] rfl)
        · have hf := (if_neg h_15).symm.trans hf
          refine lv_aload_n hx hb dd_HI_boilersFor_98 rfl (lv_at hl 0 rfl) ?_
          refine gf_HI_15 C0 hP ho_v0 dd_HI_boilersFor_99 ?_
          refine lv_iload_n hx hb dd_HI_boilersFor_102 rfl (lv_at hl 1 rfl) ?_
          obtain ⟨h_16, hf⟩ := of_ifb hf
          refine raL C0 hP (tp_0_1 ho_v0) h_16 dd_HI_boilersFor_103 ?_
          refine lv_iload_n hx hb dd_HI_boilersFor_104 rfl (lv_at hl 3 rfl) ?_
          refine lv_iload hx hb dd_HI_boilersFor_105 (lv_at hl 4 rfl) ?_
          obtain ⟨r_17, x_18, c_19, hf⟩ := of_bnd hf
          refine cl_HI_87 C0 hap  c_19 hP hS ⟨Nat.le_of_ble_eq_true rfl, Nat.le_of_ble_eq_true rfl⟩ hl.1 (Nat.le_of_ble_eq_true rfl) dd_HI_boilersFor_107 ⟨Nat.le_refl _, Nat.le_refl _⟩ (fun H locs hP hS => ?_)
          refine lv_land hx hb dd_HI_boilersFor_110 ?_
          refine lv_lconst (v := 0) hx hb dd_HI_boilersFor_111 (by decide) ?_
          refine W.lcmp hx hb dd_HI_boilersFor_112 ?_
          refine lv_if_eq (tgt := 124) hx hb dd_HI_boilersFor_113 (by decide) (fun h_20 => ?_) (fun h_20 => ?_)
          · have hf := (if_pos h_20).symm.trans hf
            refine lv_iinc (v := v4 + 1) (lv' := [(4, .int (v4 + 1)), (0, .ref (ad v0)), (1, .int v1), (2, .int v2), (3, .int v3)]) hx hb dd_HI_boilersFor_124 hl (k := 4) rfl rfl (by decide) rfl (fun ls hl => ?_)
            refine lv_goto (tgt := 72) hx hb dd_HI_boilersFor_127 (by decide) ?_
            exact ih x_18 v0 v1 v2 v3 (v4 + 1) ho_v0 hf _ _ _ hP hS (lv_sub hl [1, 2, 3, 4, 0] rfl)
          · have hf := (if_neg h_20).symm.trans hf
            exact ww_HI_boilersFor_116 C0 hap   hf hP hS (lv_sub hl [3, 4] rfl)
set_option maxHeartbeats 4000000 in
set_option maxRecDepth 100000 in
theorem ww_HI_boilersFor_59 {p : Program} {l : Launch} {e : Env} {s : State} {m : MethodId} {args : Array Value} {below : List Frame} {meth : Method} {c : Code} {E : Ev} {A : Nat → Prop} {ad : Nat → Nat} {r : Int32} {x' : St} (C0 : Cx E A RHI bb_HI_boilersFor 5 (some .int) p s m args meth c) (hap : Ap ad ixC A)  : ∀ (n : Nat), ∀ (x : St) (v0 : Nat) (v1 : Int32) (v2 : Int32) (v3 : Int32), (isO ixC v0 0) → ff_HI_boilersFor_59 n x v0 v1 v2 v3 = some (r, x') → ∀ (H : Heap) (locs : List Loc) (ls : Array Slot), Wd E ad ixC x H → va_S A s.heap H locs → lv_has ls 5 [(0, .ref (ad v0)), (1, .int v1), (2, .int v2), (3, .int v3)] → W p l e rm_HI_boilersFor s m args below meth c H locs 0 0 (MQ below (QX E ad ixC A (some (.int r)) x') args s 0 0 A) (F0 m 59 ls []) := by
  obtain ⟨hx, hb, hml, hr, hown, hts, hlk, hK⟩ := id C0
  intro n
  induction n with
  | zero => intro x v0 v1 v2 v3 ho_v0 hf; exact of_no hf
  | succ n ih =>
    intro x v0 v1 v2 v3 ho_v0 hf H locs ls hP hS hl
    have hf : (if (gi x v0 3) ≤ v3 then some ((-1), x) else ff_HI_boilersFor_72 (ff_HI_boilersFor_59 n) FU x v0 v1 v2 v3 (v3 + 1)) = some (r, x') := hf
    refine lv_iload_n hx hb dd_HI_boilersFor_59 rfl (lv_at hl 3 rfl) ?_
    refine lv_aload_n hx hb dd_HI_boilersFor_60 rfl (lv_at hl 0 rfl) ?_
    refine gf_HI_40 C0 hP ho_v0 dd_HI_boilersFor_61 ?_
    refine lv_icmp_ge (tgt := 136) hx hb dd_HI_boilersFor_64 (by decide) (fun h_6 => ?_) (fun h_6 => ?_)
    · have hf := (if_pos h_6).symm.trans hf
      refine lv_iconst (v := -1) hx hb dd_HI_boilersFor_136 (by decide) ?_
      exact rrI C0 hP hS dd_HI_boilersFor_137 hf
    · have hf := (if_neg h_6).symm.trans hf
      refine lv_iload_n hx hb dd_HI_boilersFor_67 rfl (lv_at hl 3 rfl) ?_
      refine lv_iconst (v := 1) hx hb dd_HI_boilersFor_68 (by decide) ?_
      refine lv_iadd hx hb dd_HI_boilersFor_69 ?_
      refine lv_istore (lv' := [(4, .int (v3 + 1)), (0, .ref (ad v0)), (1, .int v1), (2, .int v2), (3, .int v3)]) hx hb dd_HI_boilersFor_70 hl (by decide) rfl (fun ls hl => ?_)
      exact ww_HI_boilersFor_72 C0 hap ih FU x v0 v1 v2 v3 (v3 + 1) ho_v0 hf _ _ _ hP hS (lv_sub hl [1, 2, 3, 4, 0] rfl)
set_option maxHeartbeats 4000000 in
set_option maxRecDepth 100000 in
theorem ww_HI_boilersFor_13 {p : Program} {l : Launch} {e : Env} {s : State} {m : MethodId} {args : Array Value} {below : List Frame} {meth : Method} {c : Code} {E : Ev} {A : Nat → Prop} {ad : Nat → Nat} {r : Int32} {x' : St} (C0 : Cx E A RHI bb_HI_boilersFor 5 (some .int) p s m args meth c) (hap : Ap ad ixC A)  : ∀ (n : Nat), ∀ (x : St) (v0 : Nat) (v1 : Int32) (v2 : Int32) (v3 : Int32), (isO ixC v0 0) → ff_HI_boilersFor_13 n x v0 v1 v2 v3 = some (r, x') → ∀ (H : Heap) (locs : List Loc) (ls : Array Slot), Wd E ad ixC x H → va_S A s.heap H locs → lv_has ls 5 [(0, .ref (ad v0)), (1, .int v1), (2, .int v2), (3, .int v3)] → W p l e rm_HI_boilersFor s m args below meth c H locs 0 0 (MQ below (QX E ad ixC A (some (.int r)) x') args s 0 0 A) (F0 m 13 ls []) := by
  obtain ⟨hx, hb, hml, hr, hown, hts, hlk, hK⟩ := id C0
  intro n
  induction n with
  | zero => intro x v0 v1 v2 v3 ho_v0 hf; exact of_no hf
  | succ n ih =>
    intro x v0 v1 v2 v3 ho_v0 hf H locs ls hP hS hl
    have hf : (if (gi x v0 3) ≤ v3 then ff_HI_boilersFor_59 FU x v0 v1 v2 0 else bnd (ff_HI_isIn x v3 v2) (fun r_21 x_22 => (if r_21 = 0 then ff_HI_boilersFor_13 n x_22 v0 v1 v2 (v3 + 1) else (if ixb v1 (ln (rf v0 1)) = true then bnd (ff_HI_pairBit x_22 v3 v3) (fun r_26 x_27 => (if (lg_cmp ((gl x_22 (rf v0 1) (ix v1)) &&& r_26) 0) = 0 then ff_HI_boilersFor_13 n x_27 v0 v1 v2 (v3 + 1) else some (60 + v3, x_27))) else none)))) = some (r, x') := hf
    refine lv_iload_n hx hb dd_HI_boilersFor_13 rfl (lv_at hl 3 rfl) ?_
    refine lv_aload_n hx hb dd_HI_boilersFor_14 rfl (lv_at hl 0 rfl) ?_
    refine gf_HI_40 C0 hP ho_v0 dd_HI_boilersFor_15 ?_
    refine lv_icmp_ge (tgt := 57) hx hb dd_HI_boilersFor_18 (by decide) (fun h_5 => ?_) (fun h_5 => ?_)
    · have hf := (if_pos h_5).symm.trans hf
      refine lv_iconst (v := 0) hx hb dd_HI_boilersFor_57 (by decide) ?_
      refine lv_istore_n (lv' := [(3, .int 0), (0, .ref (ad v0)), (1, .int v1), (2, .int v2)]) hx hb dd_HI_boilersFor_58 rfl hl (by decide) rfl (fun ls hl => ?_)
      exact ww_HI_boilersFor_59 C0 hap  FU x v0 v1 v2 0 ho_v0 hf _ _ _ hP hS (lv_sub hl [1, 2, 3, 0] rfl)
    · have hf := (if_neg h_5).symm.trans hf
      refine lv_iload_n hx hb dd_HI_boilersFor_21 rfl (lv_at hl 3 rfl) ?_
      refine lv_iload_n hx hb dd_HI_boilersFor_22 rfl (lv_at hl 2 rfl) ?_
      obtain ⟨r_21, x_22, c_23, hf⟩ := of_bnd hf
      refine cl_HI_95 C0 hap  c_23 hP hS ⟨Nat.le_of_ble_eq_true rfl, Nat.le_of_ble_eq_true rfl⟩ hl.1 (Nat.le_of_ble_eq_true rfl) dd_HI_boilersFor_23 ⟨Nat.le_refl _, Nat.le_refl _⟩ (fun H locs hP hS => ?_)
      refine lv_if_eq (tgt := 51) hx hb dd_HI_boilersFor_26 (by decide) (fun h_24 => ?_) (fun h_24 => ?_)
      · have hf := (if_pos h_24).symm.trans hf
        refine lv_iinc (v := v3 + 1) (lv' := [(3, .int (v3 + 1)), (0, .ref (ad v0)), (1, .int v1), (2, .int v2)]) hx hb dd_HI_boilersFor_51 hl (k := 3) rfl rfl (by decide) rfl (fun ls hl => ?_)
        refine lv_goto (tgt := 13) hx hb dd_HI_boilersFor_54 (by decide) ?_
        exact ih x_22 v0 v1 v2 (v3 + 1) ho_v0 hf _ _ _ hP hS (lv_sub hl [1, 2, 3, 0] rfl)
      · have hf := (if_neg h_24).symm.trans hf
        refine lv_aload_n hx hb dd_HI_boilersFor_29 rfl (lv_at hl 0 rfl) ?_
        refine gf_HI_15 C0 hP ho_v0 dd_HI_boilersFor_30 ?_
        refine lv_iload_n hx hb dd_HI_boilersFor_33 rfl (lv_at hl 1 rfl) ?_
        obtain ⟨h_25, hf⟩ := of_ifb hf
        refine raL C0 hP (tp_0_1 ho_v0) h_25 dd_HI_boilersFor_34 ?_
        refine lv_iload_n hx hb dd_HI_boilersFor_35 rfl (lv_at hl 3 rfl) ?_
        refine lv_iload_n hx hb dd_HI_boilersFor_36 rfl (lv_at hl 3 rfl) ?_
        obtain ⟨r_26, x_27, c_28, hf⟩ := of_bnd hf
        refine cl_HI_87 C0 hap  c_28 hP hS ⟨Nat.le_of_ble_eq_true rfl, Nat.le_of_ble_eq_true rfl⟩ hl.1 (Nat.le_of_ble_eq_true rfl) dd_HI_boilersFor_37 ⟨Nat.le_refl _, Nat.le_refl _⟩ (fun H locs hP hS => ?_)
        refine lv_land hx hb dd_HI_boilersFor_40 ?_
        refine lv_lconst (v := 0) hx hb dd_HI_boilersFor_41 (by decide) ?_
        refine W.lcmp hx hb dd_HI_boilersFor_42 ?_
        refine lv_if_eq (tgt := 51) hx hb dd_HI_boilersFor_43 (by decide) (fun h_29 => ?_) (fun h_29 => ?_)
        · have hf := (if_pos h_29).symm.trans hf
          refine lv_iinc (v := v3 + 1) (lv' := [(3, .int (v3 + 1)), (0, .ref (ad v0)), (1, .int v1), (2, .int v2)]) hx hb dd_HI_boilersFor_51 hl (k := 3) rfl rfl (by decide) rfl (fun ls hl => ?_)
          refine lv_goto (tgt := 13) hx hb dd_HI_boilersFor_54 (by decide) ?_
          exact ih x_27 v0 v1 v2 (v3 + 1) ho_v0 hf _ _ _ hP hS (lv_sub hl [1, 2, 3, 0] rfl)
        · have hf := (if_neg h_29).symm.trans hf
          refine lv_bipush (v := 60) hx hb dd_HI_boilersFor_46 (by decide) ?_
          refine lv_iload_n hx hb dd_HI_boilersFor_48 rfl (lv_at hl 3 rfl) ?_
          refine lv_iadd hx hb dd_HI_boilersFor_49 ?_
          exact rrI C0 hP hS dd_HI_boilersFor_50 hf
set_option maxHeartbeats 4000000 in
set_option maxRecDepth 100000 in
theorem ww_HI_boilersFor {p : Program} {l : Launch} {e : Env} {s : State} {m : MethodId} {args : Array Value} {below : List Frame} {meth : Method} {c : Code} {E : Ev} {A : Nat → Prop} {ad : Nat → Nat} {r : Int32} {x' : St} (C0 : Cx E A RHI bb_HI_boilersFor 5 (some .int) p s m args meth c) (hap : Ap ad ixC A)  {x : St} {v0 : Nat} {v1 : Int32} {v2 : Int32} (ho_v0 : isO ixC v0 0) (hf : ff_HI_boilersFor x v0 v1 v2 = some (r, x')) {H : Heap} {locs : List Loc} {ls : Array Slot} (hP : Wd E ad ixC x H) (hS : va_S A s.heap H locs) (hl : lv_has ls 5 [(0, .ref (ad v0)), (1, .int v1), (2, .int v2)]) : W p l e rm_HI_boilersFor s m args below meth c H locs 0 0 (MQ below (QX E ad ixC A (some (.int r)) x') args s 0 0 A) (F0 m 0 ls []) := by
  obtain ⟨hx, hb, hml, hr, hown, hts, hlk, hK⟩ := id C0
  have hf : bnd (ff_GG_isWithin x v1 0 5) (fun r_1 x_2 => (if r_1 = 0 then some ((-1), x_2) else ff_HI_boilersFor_13 FU x_2 v0 v1 v2 0)) = some (r, x') := hf
  refine lv_iload_n hx hb dd_HI_boilersFor_0 rfl (lv_at hl 1 rfl) ?_
  refine lv_iconst (v := 0) hx hb dd_HI_boilersFor_1 (by decide) ?_
  refine lv_iconst (v := 5) hx hb dd_HI_boilersFor_2 (by decide) ?_
  obtain ⟨r_1, x_2, c_3, hf⟩ := of_bnd hf
  refine cl_HI_91 C0 hap  c_3 hP hS ⟨Nat.le_of_ble_eq_true rfl, Nat.le_of_ble_eq_true rfl⟩ hl.1 (Nat.le_of_ble_eq_true rfl) dd_HI_boilersFor_3 ⟨Nat.le_refl _, Nat.le_refl _⟩ (fun H locs hP hS => ?_)
  refine lv_if_ne (tgt := 11) hx hb dd_HI_boilersFor_6 (by decide) (fun h_4 => ?_) (fun h_4 => ?_)
  · have hf := (if_neg h_4).symm.trans hf
    refine lv_iconst (v := 0) hx hb dd_HI_boilersFor_11 (by decide) ?_
    refine lv_istore_n (lv' := [(3, .int 0), (0, .ref (ad v0)), (1, .int v1), (2, .int v2)]) hx hb dd_HI_boilersFor_12 rfl hl (by decide) rfl (fun ls hl => ?_)
    exact ww_HI_boilersFor_13 C0 hap  FU x_2 v0 v1 v2 0 ho_v0 hf _ _ _ hP hS (lv_sub hl [1, 2, 3, 0] rfl)
  · have hf := (if_pos h_4).symm.trans hf
    refine lv_iconst (v := -1) hx hb dd_HI_boilersFor_9 (by decide) ?_
    exact rrI C0 hP hS dd_HI_boilersFor_10 hf
theorem cc_HI_boilersFor {l : Launch} {E : Ev} {A : Nat → Prop} {ad : Nat → Nat} (hap : Ap ad ixC A) {x x' : St} {v0 : Nat} {v1 : Int32} {v2 : Int32} {r : Int32} (ho_v0 : isO ixC v0 0) (hf : ff_HI_boilersFor x v0 v1 v2 = some (r, x')) : Met l yy_HI_boilersFor (Cond.code yy_HI_boilersFor bb_HI_boilersFor 5 (some .int) :: gtb) rm_HI_boilersFor (va_Pc [.ref (ad v0), .int v1, .int v2] (PB E A ad ixC x)) (QX E ad ixC A (some (.int r)) x') 0 0 A := by
  exact enter (by decide) (Nat.le_of_ble_eq_true rfl) (fun p e s m below meth c ls C0 hP hS hl => ww_HI_boilersFor C0 hap ho_v0 hf hP hS hl)
theorem cl_HI_105 {p : Program} {l : Launch} {e : Env} {R : Room} {s : State} {m : MethodId} {args : Array Value} {below : List Frame} {meth : Method} {c : Code} {H : Heap} {locs : List Loc} {cells slots : Nat} {Q : State → Prop} {cc : ByteArray} {pc : Nat} {ls : Array Slot} {rest : List Value} {E : Ev} {A : Nat → Prop} {ad : Nat → Nat} {nL : Nat} {rt : Option FieldType} (C0 : Cx E A RHI cc nL rt p s m args meth c) (hap : Ap ad ixC A) {x x' : St} {v0 : Nat} {v1 : Int32} {v2 : Int32} {r : Int32} (ho_v0 : isO ixC v0 0) (hc : ff_HI_boilersFor x v0 v1 v2 = some (r, x')) (hP : Wd E ad ixC x H) (hS : va_S A s.heap H locs) (hR : rm_HI_boilersFor.frames + 1 ≤ R.frames ∧ 8 + (5 + 11) + rm_HI_boilersFor.locals ≤ R.locals) (hls : ls.size = nL) (hroom : (rest.map fun v => v.category).sum ≤ 8) (hdg : decode cc pc = .ok (.invokevirtual 105, 3)) (hf : cells ≤ R.cells ∧ slots ≤ R.slots) (kk : ∀ H1 locs1, Wd E ad ixC x' H1 → va_S A s.heap H1 locs1 → W p l e R s m args below meth c H1 locs1 cells slots Q (F0 m (pc + 3) ls (.int r :: rest))) : W p l e R s m args below meth c H locs cells slots Q (F0 m pc ls (.int v2 :: .int v1 :: .ref (ad v0) :: rest)) :=
  rcV (n := 2) C0 (cc_HI_boilersFor hap ho_v0 hc) hP hS ho_v0 vcl_0 (by decide) gw_code_HI_boilersFor gw_m_HI_105 gw_inst_HI_boilersFor gw_sel_HI_boilersFor gw_ini_HI rfl rfl (by decide +kernel) rfl hR hls rfl hroom hdg hf (fun H1 locs1 a _ _ b => kk H1 locs1 a b)
abbrev rm_HI_isEnough : Room := { frames := 2, cells := 0, slots := 0, locals := 46 }
theorem dd_HI_isEnough_0 : decode bb_HI_isEnough 0 = .ok (.iconst 0, 1) := by decide +kernel
theorem dd_HI_isEnough_1 : decode bb_HI_isEnough 1 = .ok (.istore_n 2, 1) := by decide +kernel
theorem dd_HI_isEnough_2 : decode bb_HI_isEnough 2 = .ok (.iload_n 2, 1) := by decide +kernel
theorem dd_HI_isEnough_3 : decode bb_HI_isEnough 3 = .ok (.bipush 6, 2) := by decide +kernel
theorem dd_HI_isEnough_5 : decode bb_HI_isEnough 5 = .ok (.if_icmp .ge 31, 3) := by decide +kernel
theorem dd_HI_isEnough_8 : decode bb_HI_isEnough 8 = .ok (.aload_n 0, 1) := by decide +kernel
theorem dd_HI_isEnough_9 : decode bb_HI_isEnough 9 = .ok (.getfield 9, 3) := by decide +kernel
theorem dd_HI_isEnough_12 : decode bb_HI_isEnough 12 = .ok (.iload_n 2, 1) := by decide +kernel
theorem dd_HI_isEnough_13 : decode bb_HI_isEnough 13 = .ok (.iaload, 1) := by decide +kernel
theorem dd_HI_isEnough_14 : decode bb_HI_isEnough 14 = .ok (.iconst (-1), 1) := by decide +kernel
theorem dd_HI_isEnough_15 : decode bb_HI_isEnough 15 = .ok (.if_icmp .eq 15, 3) := by decide +kernel
theorem dd_HI_isEnough_18 : decode bb_HI_isEnough 18 = .ok (.aload_n 0, 1) := by decide +kernel
theorem dd_HI_isEnough_19 : decode bb_HI_isEnough 19 = .ok (.iload_n 2, 1) := by decide +kernel
theorem dd_HI_isEnough_20 : decode bb_HI_isEnough 20 = .ok (.iload_n 1, 1) := by decide +kernel
theorem dd_HI_isEnough_21 : decode bb_HI_isEnough 21 = .ok (.invokevirtual 105, 3) := by decide +kernel
theorem dd_HI_isEnough_24 : decode bb_HI_isEnough 24 = .ok (.iconst (-1), 1) := by decide +kernel
theorem dd_HI_isEnough_25 : decode bb_HI_isEnough 25 = .ok (.if_icmp .ne 5, 3) := by decide +kernel
theorem dd_HI_isEnough_28 : decode bb_HI_isEnough 28 = .ok (.iconst 0, 1) := by decide +kernel
theorem dd_HI_isEnough_29 : decode bb_HI_isEnough 29 = .ok (.ireturn, 1) := by decide +kernel
theorem dd_HI_isEnough_30 : decode bb_HI_isEnough 30 = .ok (.iinc 2 1, 3) := by decide +kernel
theorem dd_HI_isEnough_33 : decode bb_HI_isEnough 33 = .ok (.goto (-31), 3) := by decide +kernel
theorem dd_HI_isEnough_36 : decode bb_HI_isEnough 36 = .ok (.iconst 1, 1) := by decide +kernel
theorem dd_HI_isEnough_37 : decode bb_HI_isEnough 37 = .ok (.ireturn, 1) := by decide +kernel
def ff_HI_isEnough_2  : Nat → St → Nat → Int32 → Int32 → Option (Int32 × St)
  | 0, _, _, _, _ => none
  | n + 1, x, v0, v1, v2 => (if 6 ≤ v2 then some (1, x) else (if ixb v2 (ln (rf v0 0)) = true then (if (gi x (rf v0 0) (ix v2)) = (-1) then ff_HI_isEnough_2 n x v0 v1 (v2 + 1) else bnd (ff_HI_boilersFor x v0 v2 v1) (fun r_4 x_5 => (if r_4 = (-1) then some (0, x_5) else ff_HI_isEnough_2 n x_5 v0 v1 (v2 + 1)))) else none))
def ff_HI_isEnough  (x : St) (v0 : Nat) (v1 : Int32) : Option (Int32 × St) := ff_HI_isEnough_2 FU x v0 v1 0
set_option maxHeartbeats 4000000 in
set_option maxRecDepth 100000 in
theorem ww_HI_isEnough_2 {p : Program} {l : Launch} {e : Env} {s : State} {m : MethodId} {args : Array Value} {below : List Frame} {meth : Method} {c : Code} {E : Ev} {A : Nat → Prop} {ad : Nat → Nat} {r : Int32} {x' : St} (C0 : Cx E A RHI bb_HI_isEnough 3 (some .boolean) p s m args meth c) (hap : Ap ad ixC A)  : ∀ (n : Nat), ∀ (x : St) (v0 : Nat) (v1 : Int32) (v2 : Int32), (isO ixC v0 0) → ff_HI_isEnough_2 n x v0 v1 v2 = some (r, x') → ∀ (H : Heap) (locs : List Loc) (ls : Array Slot), Wd E ad ixC x H → va_S A s.heap H locs → lv_has ls 3 [(0, .ref (ad v0)), (1, .int v1), (2, .int v2)] → W p l e rm_HI_isEnough s m args below meth c H locs 0 0 (MQ below (QX E ad ixC A (some (.int r)) x') args s 0 0 A) (F0 m 2 ls []) := by
  obtain ⟨hx, hb, hml, hr, hown, hts, hlk, hK⟩ := id C0
  intro n
  induction n with
  | zero => intro x v0 v1 v2 ho_v0 hf; exact of_no hf
  | succ n ih =>
    intro x v0 v1 v2 ho_v0 hf H locs ls hP hS hl
    have hf : (if 6 ≤ v2 then some (1, x) else (if ixb v2 (ln (rf v0 0)) = true then (if (gi x (rf v0 0) (ix v2)) = (-1) then ff_HI_isEnough_2 n x v0 v1 (v2 + 1) else bnd (ff_HI_boilersFor x v0 v2 v1) (fun r_4 x_5 => (if r_4 = (-1) then some (0, x_5) else ff_HI_isEnough_2 n x_5 v0 v1 (v2 + 1)))) else none)) = some (r, x') := hf
    refine lv_iload_n hx hb dd_HI_isEnough_2 rfl (lv_at hl 2 rfl) ?_
    refine lv_bipush (v := 6) hx hb dd_HI_isEnough_3 (by decide) ?_
    refine lv_icmp_ge (tgt := 36) hx hb dd_HI_isEnough_5 (by decide) (fun h_1 => ?_) (fun h_1 => ?_)
    · have hf := (if_pos h_1).symm.trans hf
      refine lv_iconst (v := 1) hx hb dd_HI_isEnough_36 (by decide) ?_
      exact rrZ C0 hP hS (by decide) dd_HI_isEnough_37 hf
    · have hf := (if_neg h_1).symm.trans hf
      refine lv_aload_n hx hb dd_HI_isEnough_8 rfl (lv_at hl 0 rfl) ?_
      refine gf_HI_9 C0 hP ho_v0 dd_HI_isEnough_9 ?_
      refine lv_iload_n hx hb dd_HI_isEnough_12 rfl (lv_at hl 2 rfl) ?_
      obtain ⟨h_2, hf⟩ := of_ifb hf
      refine raI C0 hP (tp_0_0 ho_v0) h_2 dd_HI_isEnough_13 ?_
      refine lv_iconst (v := -1) hx hb dd_HI_isEnough_14 (by decide) ?_
      refine lv_icmp_eq (tgt := 30) hx hb dd_HI_isEnough_15 (by decide) (fun h_3 => ?_) (fun h_3 => ?_)
      · have hf := (if_pos h_3).symm.trans hf
        refine lv_iinc (v := v2 + 1) (lv' := [(2, .int (v2 + 1)), (0, .ref (ad v0)), (1, .int v1)]) hx hb dd_HI_isEnough_30 hl (k := 2) rfl rfl (by decide) rfl (fun ls hl => ?_)
        refine lv_goto (tgt := 2) hx hb dd_HI_isEnough_33 (by decide) ?_
        exact ih x v0 v1 (v2 + 1) ho_v0 hf _ _ _ hP hS (lv_sub hl [1, 2, 0] rfl)
      · have hf := (if_neg h_3).symm.trans hf
        refine lv_aload_n hx hb dd_HI_isEnough_18 rfl (lv_at hl 0 rfl) ?_
        refine lv_iload_n hx hb dd_HI_isEnough_19 rfl (lv_at hl 2 rfl) ?_
        refine lv_iload_n hx hb dd_HI_isEnough_20 rfl (lv_at hl 1 rfl) ?_
        obtain ⟨r_4, x_5, c_6, hf⟩ := of_bnd hf
        refine cl_HI_105 C0 hap ho_v0 c_6 hP hS ⟨Nat.le_of_ble_eq_true rfl, Nat.le_of_ble_eq_true rfl⟩ hl.1 (Nat.le_of_ble_eq_true rfl) dd_HI_isEnough_21 ⟨Nat.le_refl _, Nat.le_refl _⟩ (fun H locs hP hS => ?_)
        refine lv_iconst (v := -1) hx hb dd_HI_isEnough_24 (by decide) ?_
        refine lv_icmp_ne (tgt := 30) hx hb dd_HI_isEnough_25 (by decide) (fun h_7 => ?_) (fun h_7 => ?_)
        · have hf := (if_neg h_7).symm.trans hf
          refine lv_iinc (v := v2 + 1) (lv' := [(2, .int (v2 + 1)), (0, .ref (ad v0)), (1, .int v1)]) hx hb dd_HI_isEnough_30 hl (k := 2) rfl rfl (by decide) rfl (fun ls hl => ?_)
          refine lv_goto (tgt := 2) hx hb dd_HI_isEnough_33 (by decide) ?_
          exact ih x_5 v0 v1 (v2 + 1) ho_v0 hf _ _ _ hP hS (lv_sub hl [1, 2, 0] rfl)
        · have hf := (if_pos h_7).symm.trans hf
          refine lv_iconst (v := 0) hx hb dd_HI_isEnough_28 (by decide) ?_
          exact rrZ C0 hP hS (by decide) dd_HI_isEnough_29 hf
set_option maxHeartbeats 4000000 in
set_option maxRecDepth 100000 in
theorem ww_HI_isEnough {p : Program} {l : Launch} {e : Env} {s : State} {m : MethodId} {args : Array Value} {below : List Frame} {meth : Method} {c : Code} {E : Ev} {A : Nat → Prop} {ad : Nat → Nat} {r : Int32} {x' : St} (C0 : Cx E A RHI bb_HI_isEnough 3 (some .boolean) p s m args meth c) (hap : Ap ad ixC A)  {x : St} {v0 : Nat} {v1 : Int32} (ho_v0 : isO ixC v0 0) (hf : ff_HI_isEnough x v0 v1 = some (r, x')) {H : Heap} {locs : List Loc} {ls : Array Slot} (hP : Wd E ad ixC x H) (hS : va_S A s.heap H locs) (hl : lv_has ls 3 [(0, .ref (ad v0)), (1, .int v1)]) : W p l e rm_HI_isEnough s m args below meth c H locs 0 0 (MQ below (QX E ad ixC A (some (.int r)) x') args s 0 0 A) (F0 m 0 ls []) := by
  obtain ⟨hx, hb, hml, hr, hown, hts, hlk, hK⟩ := id C0
  have hf : ff_HI_isEnough_2 FU x v0 v1 0 = some (r, x') := hf
  refine lv_iconst (v := 0) hx hb dd_HI_isEnough_0 (by decide) ?_
  refine lv_istore_n (lv' := [(2, .int 0), (0, .ref (ad v0)), (1, .int v1)]) hx hb dd_HI_isEnough_1 rfl hl (by decide) rfl (fun ls hl => ?_)
  exact ww_HI_isEnough_2 C0 hap  FU x v0 v1 0 ho_v0 hf _ _ _ hP hS (lv_sub hl [1, 2, 0] rfl)
theorem cc_HI_isEnough {l : Launch} {E : Ev} {A : Nat → Prop} {ad : Nat → Nat} (hap : Ap ad ixC A) {x x' : St} {v0 : Nat} {v1 : Int32} {r : Int32} (ho_v0 : isO ixC v0 0) (hf : ff_HI_isEnough x v0 v1 = some (r, x')) : Met l yy_HI_isEnough (Cond.code yy_HI_isEnough bb_HI_isEnough 3 (some .boolean) :: gtb) rm_HI_isEnough (va_Pc [.ref (ad v0), .int v1] (PB E A ad ixC x)) (QX E ad ixC A (some (.int r)) x') 0 0 A := by
  exact enter (by decide) (Nat.le_of_ble_eq_true rfl) (fun p e s m below meth c ls C0 hP hS hl => ww_HI_isEnough C0 hap ho_v0 hf hP hS hl)
theorem cl_HI_98 {p : Program} {l : Launch} {e : Env} {R : Room} {s : State} {m : MethodId} {args : Array Value} {below : List Frame} {meth : Method} {c : Code} {H : Heap} {locs : List Loc} {cells slots : Nat} {Q : State → Prop} {cc : ByteArray} {pc : Nat} {ls : Array Slot} {rest : List Value} {E : Ev} {A : Nat → Prop} {ad : Nat → Nat} {nL : Nat} {rt : Option FieldType} (C0 : Cx E A RHI cc nL rt p s m args meth c) (hap : Ap ad ixC A) {x x' : St} {v0 : Nat} {v1 : Int32} {r : Int32} (ho_v0 : isO ixC v0 0) (hc : ff_HI_priceOf x v0 v1 = some (r, x')) (hP : Wd E ad ixC x H) (hS : va_S A s.heap H locs) (hR : rm_HI_priceOf.frames + 1 ≤ R.frames ∧ 8 + (4 + 11) + rm_HI_priceOf.locals ≤ R.locals) (hls : ls.size = nL) (hroom : (rest.map fun v => v.category).sum ≤ 8) (hdg : decode cc pc = .ok (.invokevirtual 98, 3)) (hf : cells ≤ R.cells ∧ slots ≤ R.slots) (kk : ∀ H1 locs1, Wd E ad ixC x' H1 → va_S A s.heap H1 locs1 → W p l e R s m args below meth c H1 locs1 cells slots Q (F0 m (pc + 3) ls (.int r :: rest))) : W p l e R s m args below meth c H locs cells slots Q (F0 m pc ls (.int v1 :: .ref (ad v0) :: rest)) :=
  rcV (n := 1) C0 (cc_HI_priceOf hap ho_v0 hc) hP hS ho_v0 vcl_0 (by decide) gw_code_HI_priceOf gw_m_HI_98 gw_inst_HI_priceOf gw_sel_HI_priceOf gw_ini_HI rfl rfl (by decide +kernel) rfl hR hls rfl hroom hdg hf (fun H1 locs1 a _ _ b => kk H1 locs1 a b)
theorem cl_HI_102 {p : Program} {l : Launch} {e : Env} {R : Room} {s : State} {m : MethodId} {args : Array Value} {below : List Frame} {meth : Method} {c : Code} {H : Heap} {locs : List Loc} {cells slots : Nat} {Q : State → Prop} {cc : ByteArray} {pc : Nat} {ls : Array Slot} {rest : List Value} {E : Ev} {A : Nat → Prop} {ad : Nat → Nat} {nL : Nat} {rt : Option FieldType} (C0 : Cx E A RHI cc nL rt p s m args meth c) (hap : Ap ad ixC A) {x x' : St} {v0 : Nat} {v1 : Int32} {r : Int32} (ho_v0 : isO ixC v0 0) (hc : ff_HI_isEnough x v0 v1 = some (r, x')) (hP : Wd E ad ixC x H) (hS : va_S A s.heap H locs) (hR : rm_HI_isEnough.frames + 1 ≤ R.frames ∧ 8 + (3 + 11) + rm_HI_isEnough.locals ≤ R.locals) (hls : ls.size = nL) (hroom : (rest.map fun v => v.category).sum ≤ 8) (hdg : decode cc pc = .ok (.invokevirtual 102, 3)) (hf : cells ≤ R.cells ∧ slots ≤ R.slots) (kk : ∀ H1 locs1, Wd E ad ixC x' H1 → va_S A s.heap H1 locs1 → W p l e R s m args below meth c H1 locs1 cells slots Q (F0 m (pc + 3) ls (.int r :: rest))) : W p l e R s m args below meth c H locs cells slots Q (F0 m pc ls (.int v1 :: .ref (ad v0) :: rest)) :=
  rcV (n := 1) C0 (cc_HI_isEnough hap ho_v0 hc) hP hS ho_v0 vcl_0 (by decide) gw_code_HI_isEnough gw_m_HI_102 gw_inst_HI_isEnough gw_sel_HI_isEnough gw_ini_HI rfl rfl (by decide +kernel) rfl hR hls rfl hroom hdg hf (fun H1 locs1 a _ _ b => kk H1 locs1 a b)
abbrev rm_HI_cheapest : Room := { frames := 3, cells := 0, slots := 0, locals := 68 }
theorem dd_HI_cheapest_0 : decode bb_HI_cheapest 0 = .ok (.iconst (-1), 1) := by decide +kernel
theorem dd_HI_cheapest_1 : decode bb_HI_cheapest 1 = .ok (.istore_n 2, 1) := by decide +kernel
theorem dd_HI_cheapest_2 : decode bb_HI_cheapest 2 = .ok (.iconst 0, 1) := by decide +kernel
theorem dd_HI_cheapest_3 : decode bb_HI_cheapest 3 = .ok (.istore_n 3, 1) := by decide +kernel
theorem dd_HI_cheapest_4 : decode bb_HI_cheapest 4 = .ok (.iconst 0, 1) := by decide +kernel
theorem dd_HI_cheapest_5 : decode bb_HI_cheapest 5 = .ok (.istore 4, 2) := by decide +kernel
theorem dd_HI_cheapest_7 : decode bb_HI_cheapest 7 = .ok (.iload 4, 2) := by decide +kernel
theorem dd_HI_cheapest_9 : decode bb_HI_cheapest 9 = .ok (.iconst 1, 1) := by decide +kernel
theorem dd_HI_cheapest_10 : decode bb_HI_cheapest 10 = .ok (.aload_n 0, 1) := by decide +kernel
theorem dd_HI_cheapest_11 : decode bb_HI_cheapest 11 = .ok (.getfield 40, 3) := by decide +kernel
theorem dd_HI_cheapest_14 : decode bb_HI_cheapest 14 = .ok (.ishl, 1) := by decide +kernel
theorem dd_HI_cheapest_15 : decode bb_HI_cheapest 15 = .ok (.if_icmp .ge 60, 3) := by decide +kernel
theorem dd_HI_cheapest_18 : decode bb_HI_cheapest 18 = .ok (.iload_n 1, 1) := by decide +kernel
theorem dd_HI_cheapest_19 : decode bb_HI_cheapest 19 = .ok (.iconst (-1), 1) := by decide +kernel
theorem dd_HI_cheapest_20 : decode bb_HI_cheapest 20 = .ok (.if_icmp .eq 15, 3) := by decide +kernel
theorem dd_HI_cheapest_23 : decode bb_HI_cheapest 23 = .ok (.iload_n 1, 1) := by decide +kernel
theorem dd_HI_cheapest_24 : decode bb_HI_cheapest 24 = .ok (.iload 4, 2) := by decide +kernel
theorem dd_HI_cheapest_26 : decode bb_HI_cheapest 26 = .ok (.invokestatic 95, 3) := by decide +kernel
theorem dd_HI_cheapest_29 : decode bb_HI_cheapest 29 = .ok (.ifCond .eq 6, 3) := by decide +kernel
theorem dd_HI_cheapest_32 : decode bb_HI_cheapest 32 = .ok (.goto 37, 3) := by decide +kernel
theorem dd_HI_cheapest_35 : decode bb_HI_cheapest 35 = .ok (.aload_n 0, 1) := by decide +kernel
theorem dd_HI_cheapest_36 : decode bb_HI_cheapest 36 = .ok (.iload 4, 2) := by decide +kernel
theorem dd_HI_cheapest_38 : decode bb_HI_cheapest 38 = .ok (.invokevirtual 98, 3) := by decide +kernel
theorem dd_HI_cheapest_41 : decode bb_HI_cheapest 41 = .ok (.istore 5, 2) := by decide +kernel
theorem dd_HI_cheapest_43 : decode bb_HI_cheapest 43 = .ok (.iload_n 2, 1) := by decide +kernel
theorem dd_HI_cheapest_44 : decode bb_HI_cheapest 44 = .ok (.iconst (-1), 1) := by decide +kernel
theorem dd_HI_cheapest_45 : decode bb_HI_cheapest 45 = .ok (.if_icmp .eq 9, 3) := by decide +kernel
theorem dd_HI_cheapest_48 : decode bb_HI_cheapest 48 = .ok (.iload 5, 2) := by decide +kernel
theorem dd_HI_cheapest_50 : decode bb_HI_cheapest 50 = .ok (.iload_n 3, 1) := by decide +kernel
theorem dd_HI_cheapest_51 : decode bb_HI_cheapest 51 = .ok (.if_icmp .ge 18, 3) := by decide +kernel
theorem dd_HI_cheapest_54 : decode bb_HI_cheapest 54 = .ok (.aload_n 0, 1) := by decide +kernel
theorem dd_HI_cheapest_55 : decode bb_HI_cheapest 55 = .ok (.iload 4, 2) := by decide +kernel
theorem dd_HI_cheapest_57 : decode bb_HI_cheapest 57 = .ok (.invokevirtual 102, 3) := by decide +kernel
theorem dd_HI_cheapest_60 : decode bb_HI_cheapest 60 = .ok (.ifCond .eq 9, 3) := by decide +kernel
theorem dd_HI_cheapest_63 : decode bb_HI_cheapest 63 = .ok (.iload 4, 2) := by decide +kernel
theorem dd_HI_cheapest_65 : decode bb_HI_cheapest 65 = .ok (.istore_n 2, 1) := by decide +kernel
theorem dd_HI_cheapest_66 : decode bb_HI_cheapest 66 = .ok (.iload 5, 2) := by decide +kernel
theorem dd_HI_cheapest_68 : decode bb_HI_cheapest 68 = .ok (.istore_n 3, 1) := by decide +kernel
theorem dd_HI_cheapest_69 : decode bb_HI_cheapest 69 = .ok (.iinc 4 1, 3) := by decide +kernel
theorem dd_HI_cheapest_72 : decode bb_HI_cheapest 72 = .ok (.goto (-65), 3) := by decide +kernel
theorem dd_HI_cheapest_75 : decode bb_HI_cheapest 75 = .ok (.iload_n 2, 1) := by decide +kernel
theorem dd_HI_cheapest_76 : decode bb_HI_cheapest 76 = .ok (.ireturn, 1) := by decide +kernel
def ff_HI_cheapest_54 (k_7 : St → Nat → Int32 → Int32 → Int32 → Int32 → Option (Int32 × St)) (x : St) (v0 : Nat) (v1 : Int32) (v2 : Int32) (v3 : Int32) (v4 : Int32) (v5 : Int32) : Option (Int32 × St) := bnd (ff_HI_isEnough x v0 v4) (fun r_7 x_8 => (if r_7 = 0 then k_7 x_8 v0 v1 v2 v3 (v4 + 1) else k_7 x_8 v0 v1 v4 v5 (v4 + 1)))
def ff_HI_cheapest_35 (k_7 : St → Nat → Int32 → Int32 → Int32 → Int32 → Option (Int32 × St)) (x : St) (v0 : Nat) (v1 : Int32) (v2 : Int32) (v3 : Int32) (v4 : Int32) : Option (Int32 × St) := bnd (ff_HI_priceOf x v0 v4) (fun r_3 x_4 => (if v2 = (-1) then ff_HI_cheapest_54 k_7 x_4 v0 v1 v2 v3 v4 r_3 else (if v3 ≤ r_3 then k_7 x_4 v0 v1 v2 v3 (v4 + 1) else ff_HI_cheapest_54 k_7 x_4 v0 v1 v2 v3 v4 r_3)))
def ff_HI_cheapest_7  : Nat → St → Nat → Int32 → Int32 → Int32 → Int32 → Option (Int32 × St)
  | 0, _, _, _, _, _, _ => none
  | n + 1, x, v0, v1, v2, v3, v4 => (if (1 <<< ((gi x v0 3) &&& 31)) ≤ v4 then some (v2, x) else (if v1 = (-1) then ff_HI_cheapest_35 (ff_HI_cheapest_7 n) x v0 v1 v2 v3 v4 else bnd (ff_HI_isIn x v1 v4) (fun r_12 x_13 => (if r_12 = 0 then ff_HI_cheapest_35 (ff_HI_cheapest_7 n) x_13 v0 v1 v2 v3 v4 else ff_HI_cheapest_7 n x_13 v0 v1 v2 v3 (v4 + 1)))))
def ff_HI_cheapest  (x : St) (v0 : Nat) (v1 : Int32) : Option (Int32 × St) := ff_HI_cheapest_7 FU x v0 v1 (-1) 0 0
set_option maxHeartbeats 4000000 in
set_option maxRecDepth 100000 in
theorem ww_HI_cheapest_54 {p : Program} {l : Launch} {e : Env} {s : State} {m : MethodId} {args : Array Value} {below : List Frame} {meth : Method} {c : Code} {E : Ev} {A : Nat → Prop} {ad : Nat → Nat} {r : Int32} {x' : St} (C0 : Cx E A RHI bb_HI_cheapest 6 (some .int) p s m args meth c) (hap : Ap ad ixC A) {k_7 : St → Nat → Int32 → Int32 → Int32 → Int32 → Option (Int32 × St)} (hk_7 : ∀ (x : St) (v0 : Nat) (v1 : Int32) (v2 : Int32) (v3 : Int32) (v4 : Int32), (isO ixC v0 0) → k_7 x v0 v1 v2 v3 v4 = some (r, x') → ∀ (H : Heap) (locs : List Loc) (ls : Array Slot), Wd E ad ixC x H → va_S A s.heap H locs → lv_has ls 6 [(0, .ref (ad v0)), (1, .int v1), (2, .int v2), (3, .int v3), (4, .int v4)] → W p l e rm_HI_cheapest s m args below meth c H locs 0 0 (MQ below (QX E ad ixC A (some (.int r)) x') args s 0 0 A) (F0 m 7 ls [])) {x : St} {v0 : Nat} {v1 : Int32} {v2 : Int32} {v3 : Int32} {v4 : Int32} {v5 : Int32} (ho_v0 : isO ixC v0 0) (hf : ff_HI_cheapest_54 k_7 x v0 v1 v2 v3 v4 v5 = some (r, x')) {H : Heap} {locs : List Loc} {ls : Array Slot} (hP : Wd E ad ixC x H) (hS : va_S A s.heap H locs) (hl : lv_has ls 6 [(0, .ref (ad v0)), (1, .int v1), (2, .int v2), (3, .int v3), (4, .int v4), (5, .int v5)]) : W p l e rm_HI_cheapest s m args below meth c H locs 0 0 (MQ below (QX E ad ixC A (some (.int r)) x') args s 0 0 A) (F0 m 54 ls []) := by
  obtain ⟨hx, hb, hml, hr, hown, hts, hlk, hK⟩ := id C0
  have hf : bnd (ff_HI_isEnough x v0 v4) (fun r_7 x_8 => (if r_7 = 0 then k_7 x_8 v0 v1 v2 v3 (v4 + 1) else k_7 x_8 v0 v1 v4 v5 (v4 + 1))) = some (r, x') := hf
  refine lv_aload_n hx hb dd_HI_cheapest_54 rfl (lv_at hl 0 rfl) ?_
  refine lv_iload hx hb dd_HI_cheapest_55 (lv_at hl 4 rfl) ?_
  obtain ⟨r_7, x_8, c_9, hf⟩ := of_bnd hf
  refine cl_HI_102 C0 hap ho_v0 c_9 hP hS ⟨Nat.le_of_ble_eq_true rfl, Nat.le_of_ble_eq_true rfl⟩ hl.1 (Nat.le_of_ble_eq_true rfl) dd_HI_cheapest_57 ⟨Nat.le_refl _, Nat.le_refl _⟩ (fun H locs hP hS => ?_)
  refine lv_if_eq (tgt := 69) hx hb dd_HI_cheapest_60 (by decide) (fun h_10 => ?_) (fun h_10 => ?_)
  · have hf := (if_pos h_10).symm.trans hf
    refine lv_iinc (v := v4 + 1) (lv' := [(4, .int (v4 + 1)), (0, .ref (ad v0)), (1, .int v1), (2, .int v2), (3, .int v3), (5, .int v5)]) hx hb dd_HI_cheapest_69 hl (k := 4) rfl rfl (by decide) rfl (fun ls hl => ?_)
    refine lv_goto (tgt := 7) hx hb dd_HI_cheapest_72 (by decide) ?_
    exact hk_7 x_8 v0 v1 v2 v3 (v4 + 1) ho_v0 hf _ _ _ hP hS (lv_sub hl [1, 2, 3, 4, 0] rfl)
  · have hf := (if_neg h_10).symm.trans hf
    refine lv_iload hx hb dd_HI_cheapest_63 (lv_at hl 4 rfl) ?_
    refine lv_istore_n (lv' := [(2, .int v4), (0, .ref (ad v0)), (1, .int v1), (3, .int v3), (4, .int v4), (5, .int v5)]) hx hb dd_HI_cheapest_65 rfl hl (by decide) rfl (fun ls hl => ?_)
    refine lv_iload hx hb dd_HI_cheapest_66 (lv_at hl 5 rfl) ?_
    refine lv_istore_n (lv' := [(3, .int v5), (2, .int v4), (0, .ref (ad v0)), (1, .int v1), (4, .int v4), (5, .int v5)]) hx hb dd_HI_cheapest_68 rfl hl (by decide) rfl (fun ls hl => ?_)
    refine lv_iinc (v := v4 + 1) (lv' := [(4, .int (v4 + 1)), (3, .int v5), (2, .int v4), (0, .ref (ad v0)), (1, .int v1), (5, .int v5)]) hx hb dd_HI_cheapest_69 hl (k := 4) rfl rfl (by decide) rfl (fun ls hl => ?_)
    refine lv_goto (tgt := 7) hx hb dd_HI_cheapest_72 (by decide) ?_
    exact hk_7 x_8 v0 v1 v4 v5 (v4 + 1) ho_v0 hf _ _ _ hP hS (lv_sub hl [3, 4, 2, 1, 0] rfl)
set_option maxHeartbeats 4000000 in
set_option maxRecDepth 100000 in
theorem ww_HI_cheapest_35 {p : Program} {l : Launch} {e : Env} {s : State} {m : MethodId} {args : Array Value} {below : List Frame} {meth : Method} {c : Code} {E : Ev} {A : Nat → Prop} {ad : Nat → Nat} {r : Int32} {x' : St} (C0 : Cx E A RHI bb_HI_cheapest 6 (some .int) p s m args meth c) (hap : Ap ad ixC A) {k_7 : St → Nat → Int32 → Int32 → Int32 → Int32 → Option (Int32 × St)} (hk_7 : ∀ (x : St) (v0 : Nat) (v1 : Int32) (v2 : Int32) (v3 : Int32) (v4 : Int32), (isO ixC v0 0) → k_7 x v0 v1 v2 v3 v4 = some (r, x') → ∀ (H : Heap) (locs : List Loc) (ls : Array Slot), Wd E ad ixC x H → va_S A s.heap H locs → lv_has ls 6 [(0, .ref (ad v0)), (1, .int v1), (2, .int v2), (3, .int v3), (4, .int v4)] → W p l e rm_HI_cheapest s m args below meth c H locs 0 0 (MQ below (QX E ad ixC A (some (.int r)) x') args s 0 0 A) (F0 m 7 ls [])) {x : St} {v0 : Nat} {v1 : Int32} {v2 : Int32} {v3 : Int32} {v4 : Int32} (ho_v0 : isO ixC v0 0) (hf : ff_HI_cheapest_35 k_7 x v0 v1 v2 v3 v4 = some (r, x')) {H : Heap} {locs : List Loc} {ls : Array Slot} (hP : Wd E ad ixC x H) (hS : va_S A s.heap H locs) (hl : lv_has ls 6 [(0, .ref (ad v0)), (1, .int v1), (2, .int v2), (3, .int v3), (4, .int v4)]) : W p l e rm_HI_cheapest s m args below meth c H locs 0 0 (MQ below (QX E ad ixC A (some (.int r)) x') args s 0 0 A) (F0 m 35 ls []) := by
  obtain ⟨hx, hb, hml, hr, hown, hts, hlk, hK⟩ := id C0
  have hf : bnd (ff_HI_priceOf x v0 v4) (fun r_3 x_4 => (if v2 = (-1) then ff_HI_cheapest_54 k_7 x_4 v0 v1 v2 v3 v4 r_3 else (if v3 ≤ r_3 then k_7 x_4 v0 v1 v2 v3 (v4 + 1) else ff_HI_cheapest_54 k_7 x_4 v0 v1 v2 v3 v4 r_3))) = some (r, x') := hf
  refine lv_aload_n hx hb dd_HI_cheapest_35 rfl (lv_at hl 0 rfl) ?_
  refine lv_iload hx hb dd_HI_cheapest_36 (lv_at hl 4 rfl) ?_
  obtain ⟨r_3, x_4, c_5, hf⟩ := of_bnd hf
  refine cl_HI_98 C0 hap ho_v0 c_5 hP hS ⟨Nat.le_of_ble_eq_true rfl, Nat.le_of_ble_eq_true rfl⟩ hl.1 (Nat.le_of_ble_eq_true rfl) dd_HI_cheapest_38 ⟨Nat.le_refl _, Nat.le_refl _⟩ (fun H locs hP hS => ?_)
  refine lv_istore (lv' := [(5, .int r_3), (0, .ref (ad v0)), (1, .int v1), (2, .int v2), (3, .int v3), (4, .int v4)]) hx hb dd_HI_cheapest_41 hl (by decide) rfl (fun ls hl => ?_)
  refine lv_iload_n hx hb dd_HI_cheapest_43 rfl (lv_at hl 3 rfl) ?_
  refine lv_iconst (v := -1) hx hb dd_HI_cheapest_44 (by decide) ?_
  refine lv_icmp_eq (tgt := 54) hx hb dd_HI_cheapest_45 (by decide) (fun h_6 => ?_) (fun h_6 => ?_)
  · have hf := (if_pos h_6).symm.trans hf
    exact ww_HI_cheapest_54 C0 hap hk_7 ho_v0 hf hP hS (lv_sub hl [1, 2, 3, 4, 5, 0] rfl)
  · have hf := (if_neg h_6).symm.trans hf
    refine lv_iload hx hb dd_HI_cheapest_48 (lv_at hl 0 rfl) ?_
    refine lv_iload_n hx hb dd_HI_cheapest_50 rfl (lv_at hl 4 rfl) ?_
    refine lv_icmp_ge (tgt := 69) hx hb dd_HI_cheapest_51 (by decide) (fun h_11 => ?_) (fun h_11 => ?_)
    · have hf := (if_pos h_11).symm.trans hf
      refine lv_iinc (v := v4 + 1) (lv' := [(4, .int (v4 + 1)), (5, .int r_3), (0, .ref (ad v0)), (1, .int v1), (2, .int v2), (3, .int v3)]) hx hb dd_HI_cheapest_69 hl (k := 5) rfl rfl (by decide) rfl (fun ls hl => ?_)
      refine lv_goto (tgt := 7) hx hb dd_HI_cheapest_72 (by decide) ?_
      exact hk_7 x_4 v0 v1 v2 v3 (v4 + 1) ho_v0 hf _ _ _ hP hS (lv_sub hl [2, 3, 4, 5, 0] rfl)
    · have hf := (if_neg h_11).symm.trans hf
      exact ww_HI_cheapest_54 C0 hap hk_7 ho_v0 hf hP hS (lv_sub hl [1, 2, 3, 4, 5, 0] rfl)
set_option maxHeartbeats 4000000 in
set_option maxRecDepth 100000 in
theorem ww_HI_cheapest_7 {p : Program} {l : Launch} {e : Env} {s : State} {m : MethodId} {args : Array Value} {below : List Frame} {meth : Method} {c : Code} {E : Ev} {A : Nat → Prop} {ad : Nat → Nat} {r : Int32} {x' : St} (C0 : Cx E A RHI bb_HI_cheapest 6 (some .int) p s m args meth c) (hap : Ap ad ixC A)  : ∀ (n : Nat), ∀ (x : St) (v0 : Nat) (v1 : Int32) (v2 : Int32) (v3 : Int32) (v4 : Int32), (isO ixC v0 0) → ff_HI_cheapest_7 n x v0 v1 v2 v3 v4 = some (r, x') → ∀ (H : Heap) (locs : List Loc) (ls : Array Slot), Wd E ad ixC x H → va_S A s.heap H locs → lv_has ls 6 [(0, .ref (ad v0)), (1, .int v1), (2, .int v2), (3, .int v3), (4, .int v4)] → W p l e rm_HI_cheapest s m args below meth c H locs 0 0 (MQ below (QX E ad ixC A (some (.int r)) x') args s 0 0 A) (F0 m 7 ls []) := by
  obtain ⟨hx, hb, hml, hr, hown, hts, hlk, hK⟩ := id C0
  intro n
  induction n with
  | zero => intro x v0 v1 v2 v3 v4 ho_v0 hf; exact of_no hf
  | succ n ih =>
    intro x v0 v1 v2 v3 v4 ho_v0 hf H locs ls hP hS hl
    have hf : (if (1 <<< ((gi x v0 3) &&& 31)) ≤ v4 then some (v2, x) else (if v1 = (-1) then ff_HI_cheapest_35 (ff_HI_cheapest_7 n) x v0 v1 v2 v3 v4 else bnd (ff_HI_isIn x v1 v4) (fun r_12 x_13 => (if r_12 = 0 then ff_HI_cheapest_35 (ff_HI_cheapest_7 n) x_13 v0 v1 v2 v3 v4 else ff_HI_cheapest_7 n x_13 v0 v1 v2 v3 (v4 + 1))))) = some (r, x') := hf
    refine lv_iload hx hb dd_HI_cheapest_7 (lv_at hl 4 rfl) ?_
    refine lv_iconst (v := 1) hx hb dd_HI_cheapest_9 (by decide) ?_
    refine lv_aload_n hx hb dd_HI_cheapest_10 rfl (lv_at hl 0 rfl) ?_
    refine gf_HI_40 C0 hP ho_v0 dd_HI_cheapest_11 ?_
    refine lv_ishl hx hb dd_HI_cheapest_14 ?_
    refine lv_icmp_ge (tgt := 75) hx hb dd_HI_cheapest_15 (by decide) (fun h_1 => ?_) (fun h_1 => ?_)
    · have hf := (if_pos h_1).symm.trans hf
      refine lv_iload_n hx hb dd_HI_cheapest_75 rfl (lv_at hl 2 rfl) ?_
      exact rrI C0 hP hS dd_HI_cheapest_76 hf
    · have hf := (if_neg h_1).symm.trans hf
      refine lv_iload_n hx hb dd_HI_cheapest_18 rfl (lv_at hl 1 rfl) ?_
      refine lv_iconst (v := -1) hx hb dd_HI_cheapest_19 (by decide) ?_
      refine lv_icmp_eq (tgt := 35) hx hb dd_HI_cheapest_20 (by decide) (fun h_2 => ?_) (fun h_2 => ?_)
      · have hf := (if_pos h_2).symm.trans hf
        exact ww_HI_cheapest_35 C0 hap ih ho_v0 hf hP hS (lv_sub hl [0, 1, 2, 3, 4] rfl)
      · have hf := (if_neg h_2).symm.trans hf
        refine lv_iload_n hx hb dd_HI_cheapest_23 rfl (lv_at hl 1 rfl) ?_
        refine lv_iload hx hb dd_HI_cheapest_24 (lv_at hl 4 rfl) ?_
        obtain ⟨r_12, x_13, c_14, hf⟩ := of_bnd hf
        refine cl_HI_95 C0 hap  c_14 hP hS ⟨Nat.le_of_ble_eq_true rfl, Nat.le_of_ble_eq_true rfl⟩ hl.1 (Nat.le_of_ble_eq_true rfl) dd_HI_cheapest_26 ⟨Nat.le_refl _, Nat.le_refl _⟩ (fun H locs hP hS => ?_)
        refine lv_if_eq (tgt := 35) hx hb dd_HI_cheapest_29 (by decide) (fun h_15 => ?_) (fun h_15 => ?_)
        · have hf := (if_pos h_15).symm.trans hf
          exact ww_HI_cheapest_35 C0 hap ih ho_v0 hf hP hS (lv_sub hl [0, 1, 2, 3, 4] rfl)
        · have hf := (if_neg h_15).symm.trans hf
          refine lv_goto (tgt := 69) hx hb dd_HI_cheapest_32 (by decide) ?_
          refine lv_iinc (v := v4 + 1) (lv' := [(4, .int (v4 + 1)), (0, .ref (ad v0)), (1, .int v1), (2, .int v2), (3, .int v3)]) hx hb dd_HI_cheapest_69 hl (k := 4) rfl rfl (by decide) rfl (fun ls hl => ?_)
          refine lv_goto (tgt := 7) hx hb dd_HI_cheapest_72 (by decide) ?_
          exact ih x_13 v0 v1 v2 v3 (v4 + 1) ho_v0 hf _ _ _ hP hS (lv_sub hl [1, 2, 3, 4, 0] rfl)
set_option maxHeartbeats 4000000 in
set_option maxRecDepth 100000 in
theorem ww_HI_cheapest {p : Program} {l : Launch} {e : Env} {s : State} {m : MethodId} {args : Array Value} {below : List Frame} {meth : Method} {c : Code} {E : Ev} {A : Nat → Prop} {ad : Nat → Nat} {r : Int32} {x' : St} (C0 : Cx E A RHI bb_HI_cheapest 6 (some .int) p s m args meth c) (hap : Ap ad ixC A)  {x : St} {v0 : Nat} {v1 : Int32} (ho_v0 : isO ixC v0 0) (hf : ff_HI_cheapest x v0 v1 = some (r, x')) {H : Heap} {locs : List Loc} {ls : Array Slot} (hP : Wd E ad ixC x H) (hS : va_S A s.heap H locs) (hl : lv_has ls 6 [(0, .ref (ad v0)), (1, .int v1)]) : W p l e rm_HI_cheapest s m args below meth c H locs 0 0 (MQ below (QX E ad ixC A (some (.int r)) x') args s 0 0 A) (F0 m 0 ls []) := by
  obtain ⟨hx, hb, hml, hr, hown, hts, hlk, hK⟩ := id C0
  have hf : ff_HI_cheapest_7 FU x v0 v1 (-1) 0 0 = some (r, x') := hf
  refine lv_iconst (v := -1) hx hb dd_HI_cheapest_0 (by decide) ?_
  refine lv_istore_n (lv' := [(2, .int (-1)), (0, .ref (ad v0)), (1, .int v1)]) hx hb dd_HI_cheapest_1 rfl hl (by decide) rfl (fun ls hl => ?_)
  refine lv_iconst (v := 0) hx hb dd_HI_cheapest_2 (by decide) ?_
  refine lv_istore_n (lv' := [(3, .int 0), (2, .int (-1)), (0, .ref (ad v0)), (1, .int v1)]) hx hb dd_HI_cheapest_3 rfl hl (by decide) rfl (fun ls hl => ?_)
  refine lv_iconst (v := 0) hx hb dd_HI_cheapest_4 (by decide) ?_
  refine lv_istore (lv' := [(4, .int 0), (3, .int 0), (2, .int (-1)), (0, .ref (ad v0)), (1, .int v1)]) hx hb dd_HI_cheapest_5 hl (by decide) rfl (fun ls hl => ?_)
  exact ww_HI_cheapest_7 C0 hap  FU x v0 v1 (-1) 0 0 ho_v0 hf _ _ _ hP hS (lv_sub hl [3, 4, 2, 1, 0] rfl)
theorem cc_HI_cheapest {l : Launch} {E : Ev} {A : Nat → Prop} {ad : Nat → Nat} (hap : Ap ad ixC A) {x x' : St} {v0 : Nat} {v1 : Int32} {r : Int32} (ho_v0 : isO ixC v0 0) (hf : ff_HI_cheapest x v0 v1 = some (r, x')) : Met l yy_HI_cheapest (Cond.code yy_HI_cheapest bb_HI_cheapest 6 (some .int) :: gtb) rm_HI_cheapest (va_Pc [.ref (ad v0), .int v1] (PB E A ad ixC x)) (QX E ad ixC A (some (.int r)) x') 0 0 A := by
  exact enter (by decide) (Nat.le_of_ble_eq_true rfl) (fun p e s m below meth c ls C0 hP hS hl => ww_HI_cheapest C0 hap ho_v0 hf hP hS hl)
theorem cl_OU_41 {p : Program} {l : Launch} {e : Env} {R : Room} {s : State} {m : MethodId} {args : Array Value} {below : List Frame} {meth : Method} {c : Code} {H : Heap} {locs : List Loc} {cells slots : Nat} {Q : State → Prop} {cc : ByteArray} {pc : Nat} {ls : Array Slot} {rest : List Value} {E : Ev} {A : Nat → Prop} {ad : Nat → Nat} {nL : Nat} {rt : Option FieldType} (C0 : Cx E A ROU cc nL rt p s m args meth c) (hap : Ap ad ixC A) {x x' : St} {v0 : Int32} {v1 : Int32} {v2 : Int32} {r : Int32}  (hc : ff_GG_isWithin x v0 v1 v2 = some (r, x')) (hP : Wd E ad ixC x H) (hS : va_S A s.heap H locs) (hR : rm_GG_isWithin.frames + 1 ≤ R.frames ∧ 8 + (3 + 11) + rm_GG_isWithin.locals ≤ R.locals) (hls : ls.size = nL) (hroom : (rest.map fun v => v.category).sum ≤ 8) (hdg : decode cc pc = .ok (.invokestatic 41, 3)) (hf : cells ≤ R.cells ∧ slots ≤ R.slots) (kk : ∀ H1 locs1, Wd E ad ixC x' H1 → va_S A s.heap H1 locs1 → W p l e R s m args below meth c H1 locs1 cells slots Q (F0 m (pc + 3) ls (.int r :: rest))) : W p l e R s m args below meth c H locs cells slots Q (F0 m pc ls (.int v2 :: .int v1 :: .int v0 :: rest)) :=
  rcSN (n := 3) C0 (cc_GG_isWithin hap  hc) hP hS gw_code_GG_isWithin gw_m_OU_41 gw_static_GG_isWithin gw_ini_GG rfl rfl (by decide +kernel) rfl hR hls rfl hroom hdg hf (fun H1 locs1 a _ _ b => kk H1 locs1 a b)
theorem cl_OU_46 {p : Program} {l : Launch} {e : Env} {R : Room} {s : State} {m : MethodId} {args : Array Value} {below : List Frame} {meth : Method} {c : Code} {H : Heap} {locs : List Loc} {cells slots : Nat} {Q : State → Prop} {cc : ByteArray} {pc : Nat} {ls : Array Slot} {rest : List Value} {E : Ev} {A : Nat → Prop} {ad : Nat → Nat} {nL : Nat} {rt : Option FieldType} (C0 : Cx E A ROU cc nL rt p s m args meth c) (hap : Ap ad ixC A) {x x' : St} {v0 : Nat} {v1 : Int32} {r : Unit} (ho_v0 : isO ixC v0 20) (hc : ff_AR_fillI x v0 v1 = some (r, x')) (hP : Wd E ad ixC x H) (hS : va_S A s.heap H locs) (hR : rm_AR_fillI.frames + 1 ≤ R.frames ∧ 8 + (4 + 11) + rm_AR_fillI.locals ≤ R.locals) (hls : ls.size = nL) (hroom : (rest.map fun v => v.category).sum ≤ 8) (hdg : decode cc pc = .ok (.invokestatic 46, 3)) (hf : cells ≤ R.cells ∧ slots ≤ R.slots) (kk : ∀ H1 locs1, Wd E ad ixC x' H1 → va_S A s.heap H1 locs1 → W p l e R s m args below meth c H1 locs1 cells slots Q (F0 m (pc + 3) ls (rest))) : W p l e R s m args below meth c H locs cells slots Q (F0 m pc ls (.int v1 :: .ref (ad v0) :: rest)) :=
  rcS (n := 2) C0 (cc_AR_fillI hap ho_v0 hc) hP hS gw_code_AR_fillI gw_m_OU_46 gw_static_AR_fillI gw_ini_AR rfl rfl (by decide +kernel) rfl hR hls rfl hroom hdg hf (fun H1 locs1 a _ _ b => kk H1 locs1 a b)
abbrev rm_OU_weepADay : Room := { frames := 1, cells := 0, slots := 0, locals := 26 }
theorem dd_OU_weepADay_0 : decode bb_OU_weepADay 0 = .ok (.aload_n 0, 1) := by decide +kernel
theorem dd_OU_weepADay_1 : decode bb_OU_weepADay 1 = .ok (.getfield 21, 3) := by decide +kernel
theorem dd_OU_weepADay_4 : decode bb_OU_weepADay 4 = .ok (.ldc 45, 2) := by decide +kernel
theorem dd_OU_weepADay_6 : decode bb_OU_weepADay 6 = .ok (.invokestatic 46, 3) := by decide +kernel
theorem dd_OU_weepADay_9 : decode bb_OU_weepADay 9 = .ok (.iconst 0, 1) := by decide +kernel
theorem dd_OU_weepADay_10 : decode bb_OU_weepADay 10 = .ok (.istore_n 2, 1) := by decide +kernel
theorem dd_OU_weepADay_11 : decode bb_OU_weepADay 11 = .ok (.iload_n 2, 1) := by decide +kernel
theorem dd_OU_weepADay_12 : decode bb_OU_weepADay 12 = .ok (.bipush 100, 2) := by decide +kernel
theorem dd_OU_weepADay_14 : decode bb_OU_weepADay 14 = .ok (.if_icmp .ge 86, 3) := by decide +kernel
theorem dd_OU_weepADay_17 : decode bb_OU_weepADay 17 = .ok (.aload_n 0, 1) := by decide +kernel
theorem dd_OU_weepADay_18 : decode bb_OU_weepADay 18 = .ok (.getfield 18, 3) := by decide +kernel
theorem dd_OU_weepADay_21 : decode bb_OU_weepADay 21 = .ok (.iload_n 2, 1) := by decide +kernel
theorem dd_OU_weepADay_22 : decode bb_OU_weepADay 22 = .ok (.iaload, 1) := by decide +kernel
theorem dd_OU_weepADay_23 : decode bb_OU_weepADay 23 = .ok (.ldc 45, 2) := by decide +kernel
theorem dd_OU_weepADay_25 : decode bb_OU_weepADay 25 = .ok (.if_icmp .eq 69, 3) := by decide +kernel
theorem dd_OU_weepADay_28 : decode bb_OU_weepADay 28 = .ok (.iconst 0, 1) := by decide +kernel
theorem dd_OU_weepADay_29 : decode bb_OU_weepADay 29 = .ok (.istore_n 3, 1) := by decide +kernel
theorem dd_OU_weepADay_30 : decode bb_OU_weepADay 30 = .ok (.iload_n 3, 1) := by decide +kernel
theorem dd_OU_weepADay_31 : decode bb_OU_weepADay 31 = .ok (.iconst 3, 1) := by decide +kernel
theorem dd_OU_weepADay_32 : decode bb_OU_weepADay 32 = .ok (.if_icmp .gt 62, 3) := by decide +kernel
theorem dd_OU_weepADay_35 : decode bb_OU_weepADay 35 = .ok (.aload_n 0, 1) := by decide +kernel
theorem dd_OU_weepADay_36 : decode bb_OU_weepADay 36 = .ok (.getfield 15, 3) := by decide +kernel
theorem dd_OU_weepADay_39 : decode bb_OU_weepADay 39 = .ok (.iload_n 2, 1) := by decide +kernel
theorem dd_OU_weepADay_40 : decode bb_OU_weepADay 40 = .ok (.iaload, 1) := by decide +kernel
theorem dd_OU_weepADay_41 : decode bb_OU_weepADay 41 = .ok (.iload_n 3, 1) := by decide +kernel
theorem dd_OU_weepADay_42 : decode bb_OU_weepADay 42 = .ok (.iconst 5, 1) := by decide +kernel
theorem dd_OU_weepADay_43 : decode bb_OU_weepADay 43 = .ok (.imul, 1) := by decide +kernel
theorem dd_OU_weepADay_44 : decode bb_OU_weepADay 44 = .ok (.iadd, 1) := by decide +kernel
theorem dd_OU_weepADay_45 : decode bb_OU_weepADay 45 = .ok (.bipush 99, 2) := by decide +kernel
theorem dd_OU_weepADay_47 : decode bb_OU_weepADay 47 = .ok (.invokestatic 60, 3) := by decide +kernel
theorem dd_OU_weepADay_50 : decode bb_OU_weepADay 50 = .ok (.istore 4, 2) := by decide +kernel
theorem dd_OU_weepADay_52 : decode bb_OU_weepADay 52 = .ok (.iload 4, 2) := by decide +kernel
theorem dd_OU_weepADay_54 : decode bb_OU_weepADay 54 = .ok (.iload_n 1, 1) := by decide +kernel
theorem dd_OU_weepADay_55 : decode bb_OU_weepADay 55 = .ok (.bipush 99, 2) := by decide +kernel
theorem dd_OU_weepADay_57 : decode bb_OU_weepADay 57 = .ok (.invokestatic 41, 3) := by decide +kernel
theorem dd_OU_weepADay_60 : decode bb_OU_weepADay 60 = .ok (.ifCond .eq 28, 3) := by decide +kernel
theorem dd_OU_weepADay_63 : decode bb_OU_weepADay 63 = .ok (.aload_n 0, 1) := by decide +kernel
theorem dd_OU_weepADay_64 : decode bb_OU_weepADay 64 = .ok (.getfield 21, 3) := by decide +kernel
theorem dd_OU_weepADay_67 : decode bb_OU_weepADay 67 = .ok (.iload 4, 2) := by decide +kernel
theorem dd_OU_weepADay_69 : decode bb_OU_weepADay 69 = .ok (.aload_n 0, 1) := by decide +kernel
theorem dd_OU_weepADay_70 : decode bb_OU_weepADay 70 = .ok (.getfield 21, 3) := by decide +kernel
theorem dd_OU_weepADay_73 : decode bb_OU_weepADay 73 = .ok (.iload 4, 2) := by decide +kernel
theorem dd_OU_weepADay_75 : decode bb_OU_weepADay 75 = .ok (.iaload, 1) := by decide +kernel
theorem dd_OU_weepADay_76 : decode bb_OU_weepADay 76 = .ok (.aload_n 0, 1) := by decide +kernel
theorem dd_OU_weepADay_77 : decode bb_OU_weepADay 77 = .ok (.getfield 18, 3) := by decide +kernel
theorem dd_OU_weepADay_80 : decode bb_OU_weepADay 80 = .ok (.iload_n 2, 1) := by decide +kernel
theorem dd_OU_weepADay_81 : decode bb_OU_weepADay 81 = .ok (.iaload, 1) := by decide +kernel
theorem dd_OU_weepADay_82 : decode bb_OU_weepADay 82 = .ok (.iload_n 3, 1) := by decide +kernel
theorem dd_OU_weepADay_83 : decode bb_OU_weepADay 83 = .ok (.iadd, 1) := by decide +kernel
theorem dd_OU_weepADay_84 : decode bb_OU_weepADay 84 = .ok (.invokestatic 60, 3) := by decide +kernel
theorem dd_OU_weepADay_87 : decode bb_OU_weepADay 87 = .ok (.iastore, 1) := by decide +kernel
theorem dd_OU_weepADay_88 : decode bb_OU_weepADay 88 = .ok (.iinc 3 1, 3) := by decide +kernel
theorem dd_OU_weepADay_91 : decode bb_OU_weepADay 91 = .ok (.goto (-61), 3) := by decide +kernel
theorem dd_OU_weepADay_94 : decode bb_OU_weepADay 94 = .ok (.iinc 2 1, 3) := by decide +kernel
theorem dd_OU_weepADay_97 : decode bb_OU_weepADay 97 = .ok (.goto (-86), 3) := by decide +kernel
theorem dd_OU_weepADay_100 : decode bb_OU_weepADay 100 = .ok (.aload_n 0, 1) := by decide +kernel
theorem dd_OU_weepADay_101 : decode bb_OU_weepADay 101 = .ok (.getfield 21, 3) := by decide +kernel
theorem dd_OU_weepADay_104 : decode bb_OU_weepADay 104 = .ok (.iconst 0, 1) := by decide +kernel
theorem dd_OU_weepADay_105 : decode bb_OU_weepADay 105 = .ok (.aload_n 0, 1) := by decide +kernel
theorem dd_OU_weepADay_106 : decode bb_OU_weepADay 106 = .ok (.getfield 18, 3) := by decide +kernel
theorem dd_OU_weepADay_109 : decode bb_OU_weepADay 109 = .ok (.iconst 0, 1) := by decide +kernel
theorem dd_OU_weepADay_110 : decode bb_OU_weepADay 110 = .ok (.bipush 100, 2) := by decide +kernel
theorem dd_OU_weepADay_112 : decode bb_OU_weepADay 112 = .ok (.invokestatic 65, 3) := by decide +kernel
theorem dd_OU_weepADay_115 : decode bb_OU_weepADay 115 = .ok (.return_, 1) := by decide +kernel
def ff_OU_weepADay_100  (x : St) (v0 : Nat) : Option (Unit × St) := (if spb 0 100 (ln (rf v0 3)) = true then (if spb 0 100 (ln (rf v0 2)) = true then st (cpi x (rf v0 3) (ix 0) (rf v0 2) (ix 0) (ix 100)) (fun x_7 => some ((), x_7)) else none) else none)
def ff_OU_weepADay_30 (k_11 : St → Nat → Int32 → Int32 → Option (Unit × St)) : Nat → St → Nat → Int32 → Int32 → Int32 → Option (Unit × St)
  | 0, _, _, _, _, _ => none
  | n + 1, x, v0, v1, v2, v3 => (if 3 < v3 then k_11 x v0 v1 (v2 + 1) else (if ixb v2 (ln (rf v0 1)) = true then li (imin ((gi x (rf v0 1) (ix v2)) + (v3 * 5)) 99) (fun u_12 => bnd (ff_GG_isWithin x u_12 v1 99) (fun r_13 x_14 => (if r_13 = 0 then ff_OU_weepADay_30 k_11 n x_14 v0 v1 v2 (v3 + 1) else (if ixb u_12 (ln (rf v0 3)) = true then (if ixb v2 (ln (rf v0 2)) = true then (if ixb u_12 (ln (rf v0 3)) = true then st (si x_14 (rf v0 3) (ix u_12) (imin (gi x_14 (rf v0 3) (ix u_12)) ((gi x_14 (rf v0 2) (ix v2)) + v3))) (fun x_20 => ff_OU_weepADay_30 k_11 n x_20 v0 v1 v2 (v3 + 1)) else none) else none) else none)))) else none))
def ff_OU_weepADay_11  : Nat → St → Nat → Int32 → Int32 → Option (Unit × St)
  | 0, _, _, _, _ => none
  | n + 1, x, v0, v1, v2 => (if 100 ≤ v2 then ff_OU_weepADay_100 x v0 else (if ixb v2 (ln (rf v0 2)) = true then (if (gi x (rf v0 2) (ix v2)) = 1000000 then ff_OU_weepADay_11 n x v0 v1 (v2 + 1) else ff_OU_weepADay_30 (ff_OU_weepADay_11 n) FU x v0 v1 v2 0) else none))
def ff_OU_weepADay  (x : St) (v0 : Nat) (v1 : Int32) : Option (Unit × St) := bnd (ff_AR_fillI x (rf v0 3) 1000000) (fun _ x_2 => ff_OU_weepADay_11 FU x_2 v0 v1 0)
set_option maxHeartbeats 4000000 in
set_option maxRecDepth 100000 in
theorem ww_OU_weepADay_100 {p : Program} {l : Launch} {e : Env} {s : State} {m : MethodId} {args : Array Value} {below : List Frame} {meth : Method} {c : Code} {E : Ev} {A : Nat → Prop} {ad : Nat → Nat} {r : Unit} {x' : St} (C0 : Cx E A ROU bb_OU_weepADay 5 (none) p s m args meth c) (hap : Ap ad ixC A)  {x : St} {v0 : Nat} (ho_v0 : isO ixC v0 2) (hf : ff_OU_weepADay_100 x v0 = some (r, x')) {H : Heap} {locs : List Loc} {ls : Array Slot} (hP : Wd E ad ixC x H) (hS : va_S A s.heap H locs) (hl : lv_has ls 5 [(0, .ref (ad v0))]) : W p l e rm_OU_weepADay s m args below meth c H locs 0 0 (MQ below (QX E ad ixC A (none) x') args s 0 0 A) (F0 m 100 ls []) := by
  obtain ⟨hx, hb, hml, hr, hown, hts, hlk, hK⟩ := id C0
  have hf : (if spb 0 100 (ln (rf v0 3)) = true then (if spb 0 100 (ln (rf v0 2)) = true then st (cpi x (rf v0 3) (ix 0) (rf v0 2) (ix 0) (ix 100)) (fun x_7 => some ((), x_7)) else none) else none) = some (r, x') := hf
  refine lv_aload_n hx hb dd_OU_weepADay_100 rfl (lv_at hl 0 rfl) ?_
  refine gf_OU_21 C0 hP ho_v0 dd_OU_weepADay_101 ?_
  refine lv_iconst (v := 0) hx hb dd_OU_weepADay_104 (by decide) ?_
  refine lv_aload_n hx hb dd_OU_weepADay_105 rfl (lv_at hl 0 rfl) ?_
  refine gf_OU_18 C0 hP ho_v0 dd_OU_weepADay_106 ?_
  refine lv_iconst (v := 0) hx hb dd_OU_weepADay_109 (by decide) ?_
  refine lv_bipush (v := 100) hx hb dd_OU_weepADay_110 (by decide) ?_
  obtain ⟨h_5, hf⟩ := of_ifb hf
  obtain ⟨h_6, hf⟩ := of_ifb hf
  obtain ⟨x_7, hx_7, hf⟩ := of_st hf
  refine cpI C0 hap hP hS (tp_2_3 ho_v0) (tp_2_2 ho_v0) h_5 h_6 hx_7 hl.1 gw_m_OU_65 (Nat.le_of_ble_eq_true rfl) ⟨Nat.le_of_ble_eq_true rfl, Nat.le_of_ble_eq_true rfl⟩ dd_OU_weepADay_112 (fun H locs hP hS => ?_)
  exact rrV C0 hP hS dd_OU_weepADay_115 hf
set_option maxHeartbeats 4000000 in
set_option maxRecDepth 100000 in
theorem ww_OU_weepADay_30 {p : Program} {l : Launch} {e : Env} {s : State} {m : MethodId} {args : Array Value} {below : List Frame} {meth : Method} {c : Code} {E : Ev} {A : Nat → Prop} {ad : Nat → Nat} {r : Unit} {x' : St} (C0 : Cx E A ROU bb_OU_weepADay 5 (none) p s m args meth c) (hap : Ap ad ixC A) {k_11 : St → Nat → Int32 → Int32 → Option (Unit × St)} (hk_11 : ∀ (x : St) (v0 : Nat) (v1 : Int32) (v2 : Int32), (isO ixC v0 2) → k_11 x v0 v1 v2 = some (r, x') → ∀ (H : Heap) (locs : List Loc) (ls : Array Slot), Wd E ad ixC x H → va_S A s.heap H locs → lv_has ls 5 [(0, .ref (ad v0)), (1, .int v1), (2, .int v2)] → W p l e rm_OU_weepADay s m args below meth c H locs 0 0 (MQ below (QX E ad ixC A (none) x') args s 0 0 A) (F0 m 11 ls [])) : ∀ (n : Nat), ∀ (x : St) (v0 : Nat) (v1 : Int32) (v2 : Int32) (v3 : Int32), (isO ixC v0 2) → ff_OU_weepADay_30 k_11 n x v0 v1 v2 v3 = some (r, x') → ∀ (H : Heap) (locs : List Loc) (ls : Array Slot), Wd E ad ixC x H → va_S A s.heap H locs → lv_has ls 5 [(0, .ref (ad v0)), (1, .int v1), (2, .int v2), (3, .int v3)] → W p l e rm_OU_weepADay s m args below meth c H locs 0 0 (MQ below (QX E ad ixC A (none) x') args s 0 0 A) (F0 m 30 ls []) := by
  obtain ⟨hx, hb, hml, hr, hown, hts, hlk, hK⟩ := id C0
  intro n
  induction n with
  | zero => intro x v0 v1 v2 v3 ho_v0 hf; exact of_no hf
  | succ n ih =>
    intro x v0 v1 v2 v3 ho_v0 hf H locs ls hP hS hl
    have hf : (if 3 < v3 then k_11 x v0 v1 (v2 + 1) else (if ixb v2 (ln (rf v0 1)) = true then li (imin ((gi x (rf v0 1) (ix v2)) + (v3 * 5)) 99) (fun u_12 => bnd (ff_GG_isWithin x u_12 v1 99) (fun r_13 x_14 => (if r_13 = 0 then ff_OU_weepADay_30 k_11 n x_14 v0 v1 v2 (v3 + 1) else (if ixb u_12 (ln (rf v0 3)) = true then (if ixb v2 (ln (rf v0 2)) = true then (if ixb u_12 (ln (rf v0 3)) = true then st (si x_14 (rf v0 3) (ix u_12) (imin (gi x_14 (rf v0 3) (ix u_12)) ((gi x_14 (rf v0 2) (ix v2)) + v3))) (fun x_20 => ff_OU_weepADay_30 k_11 n x_20 v0 v1 v2 (v3 + 1)) else none) else none) else none)))) else none)) = some (r, x') := hf
    refine lv_iload_n hx hb dd_OU_weepADay_30 rfl (lv_at hl 3 rfl) ?_
    refine lv_iconst (v := 3) hx hb dd_OU_weepADay_31 (by decide) ?_
    refine lv_icmp_gt (tgt := 94) hx hb dd_OU_weepADay_32 (by decide) (fun h_10 => ?_) (fun h_10 => ?_)
    · have hf := (if_pos h_10).symm.trans hf
      refine lv_iinc (v := v2 + 1) (lv' := [(2, .int (v2 + 1)), (0, .ref (ad v0)), (1, .int v1), (3, .int v3)]) hx hb dd_OU_weepADay_94 hl (k := 2) rfl rfl (by decide) rfl (fun ls hl => ?_)
      refine lv_goto (tgt := 11) hx hb dd_OU_weepADay_97 (by decide) ?_
      exact hk_11 x v0 v1 (v2 + 1) ho_v0 hf _ _ _ hP hS (lv_sub hl [1, 2, 0] rfl)
    · have hf := (if_neg h_10).symm.trans hf
      refine lv_aload_n hx hb dd_OU_weepADay_35 rfl (lv_at hl 0 rfl) ?_
      refine gf_OU_15 C0 hP ho_v0 dd_OU_weepADay_36 ?_
      refine lv_iload_n hx hb dd_OU_weepADay_39 rfl (lv_at hl 2 rfl) ?_
      obtain ⟨h_11, hf⟩ := of_ifb hf
      refine raI C0 hP (tp_2_1 ho_v0) h_11 dd_OU_weepADay_40 ?_
      refine lv_iload_n hx hb dd_OU_weepADay_41 rfl (lv_at hl 3 rfl) ?_
      refine lv_iconst (v := 5) hx hb dd_OU_weepADay_42 (by decide) ?_
      refine lv_imul hx hb dd_OU_weepADay_43 ?_
      refine lv_iadd hx hb dd_OU_weepADay_44 ?_
      refine lv_bipush (v := 99) hx hb dd_OU_weepADay_45 (by decide) ?_
      refine rmin C0 hl.1 gw_m_OU_60 (Nat.le_of_ble_eq_true rfl) ⟨Nat.le_of_ble_eq_true rfl, Nat.le_of_ble_eq_true rfl⟩ ⟨Nat.le_refl _, Nat.le_refl _⟩ dd_OU_weepADay_47 ?_
      obtain ⟨u_12, eu_12, hf⟩ := of_li hf
      refine tpi eu_12 ?_
      refine lv_istore (lv' := [(4, .int u_12), (0, .ref (ad v0)), (1, .int v1), (2, .int v2), (3, .int v3)]) hx hb dd_OU_weepADay_50 hl (by decide) rfl (fun ls hl => ?_)
      refine lv_iload hx hb dd_OU_weepADay_52 (lv_at hl 0 rfl) ?_
      refine lv_iload_n hx hb dd_OU_weepADay_54 rfl (lv_at hl 2 rfl) ?_
      refine lv_bipush (v := 99) hx hb dd_OU_weepADay_55 (by decide) ?_
      obtain ⟨r_13, x_14, c_15, hf⟩ := of_bnd hf
      refine cl_OU_41 C0 hap  c_15 hP hS ⟨Nat.le_of_ble_eq_true rfl, Nat.le_of_ble_eq_true rfl⟩ hl.1 (Nat.le_of_ble_eq_true rfl) dd_OU_weepADay_57 ⟨Nat.le_refl _, Nat.le_refl _⟩ (fun H locs hP hS => ?_)
      refine lv_if_eq (tgt := 88) hx hb dd_OU_weepADay_60 (by decide) (fun h_16 => ?_) (fun h_16 => ?_)
      · have hf := (if_pos h_16).symm.trans hf
        refine lv_iinc (v := v3 + 1) (lv' := [(3, .int (v3 + 1)), (4, .int u_12), (0, .ref (ad v0)), (1, .int v1), (2, .int v2)]) hx hb dd_OU_weepADay_88 hl (k := 4) rfl rfl (by decide) rfl (fun ls hl => ?_)
        refine lv_goto (tgt := 30) hx hb dd_OU_weepADay_91 (by decide) ?_
        exact ih x_14 v0 v1 v2 (v3 + 1) ho_v0 hf _ _ _ hP hS (lv_sub hl [2, 3, 4, 0] rfl)
      · have hf := (if_neg h_16).symm.trans hf
        refine lv_aload_n hx hb dd_OU_weepADay_63 rfl (lv_at hl 1 rfl) ?_
        refine gf_OU_21 C0 hP ho_v0 dd_OU_weepADay_64 ?_
        refine lv_iload hx hb dd_OU_weepADay_67 (lv_at hl 0 rfl) ?_
        refine lv_aload_n hx hb dd_OU_weepADay_69 rfl (lv_at hl 1 rfl) ?_
        refine gf_OU_21 C0 hP ho_v0 dd_OU_weepADay_70 ?_
        refine lv_iload hx hb dd_OU_weepADay_73 (lv_at hl 0 rfl) ?_
        obtain ⟨h_17, hf⟩ := of_ifb hf
        refine raI C0 hP (tp_2_3 ho_v0) h_17 dd_OU_weepADay_75 ?_
        refine lv_aload_n hx hb dd_OU_weepADay_76 rfl (lv_at hl 1 rfl) ?_
        refine gf_OU_18 C0 hP ho_v0 dd_OU_weepADay_77 ?_
        refine lv_iload_n hx hb dd_OU_weepADay_80 rfl (lv_at hl 3 rfl) ?_
        obtain ⟨h_18, hf⟩ := of_ifb hf
        refine raI C0 hP (tp_2_2 ho_v0) h_18 dd_OU_weepADay_81 ?_
        refine lv_iload_n hx hb dd_OU_weepADay_82 rfl (lv_at hl 4 rfl) ?_
        refine lv_iadd hx hb dd_OU_weepADay_83 ?_
        refine rmin C0 hl.1 gw_m_OU_60 (Nat.le_of_ble_eq_true rfl) ⟨Nat.le_of_ble_eq_true rfl, Nat.le_of_ble_eq_true rfl⟩ ⟨Nat.le_refl _, Nat.le_refl _⟩ dd_OU_weepADay_84 ?_
        obtain ⟨h_19, hf⟩ := of_ifb hf
        obtain ⟨x_20, hx_20, hf⟩ := of_st hf
        refine sI C0 hap hP hS (tp_2_3 ho_v0) h_19 hx_20 dd_OU_weepADay_87 (fun H locs hP hS => ?_)
        refine lv_iinc (v := v3 + 1) (lv' := [(3, .int (v3 + 1)), (4, .int u_12), (0, .ref (ad v0)), (1, .int v1), (2, .int v2)]) hx hb dd_OU_weepADay_88 hl (k := 4) rfl rfl (by decide) rfl (fun ls hl => ?_)
        refine lv_goto (tgt := 30) hx hb dd_OU_weepADay_91 (by decide) ?_
        exact ih x_20 v0 v1 v2 (v3 + 1) ho_v0 hf _ _ _ hP hS (lv_sub hl [2, 3, 4, 0] rfl)
set_option maxHeartbeats 4000000 in
set_option maxRecDepth 100000 in
theorem ww_OU_weepADay_11 {p : Program} {l : Launch} {e : Env} {s : State} {m : MethodId} {args : Array Value} {below : List Frame} {meth : Method} {c : Code} {E : Ev} {A : Nat → Prop} {ad : Nat → Nat} {r : Unit} {x' : St} (C0 : Cx E A ROU bb_OU_weepADay 5 (none) p s m args meth c) (hap : Ap ad ixC A)  : ∀ (n : Nat), ∀ (x : St) (v0 : Nat) (v1 : Int32) (v2 : Int32), (isO ixC v0 2) → ff_OU_weepADay_11 n x v0 v1 v2 = some (r, x') → ∀ (H : Heap) (locs : List Loc) (ls : Array Slot), Wd E ad ixC x H → va_S A s.heap H locs → lv_has ls 5 [(0, .ref (ad v0)), (1, .int v1), (2, .int v2)] → W p l e rm_OU_weepADay s m args below meth c H locs 0 0 (MQ below (QX E ad ixC A (none) x') args s 0 0 A) (F0 m 11 ls []) := by
  obtain ⟨hx, hb, hml, hr, hown, hts, hlk, hK⟩ := id C0
  intro n
  induction n with
  | zero => intro x v0 v1 v2 ho_v0 hf; exact of_no hf
  | succ n ih =>
    intro x v0 v1 v2 ho_v0 hf H locs ls hP hS hl
    have hf : (if 100 ≤ v2 then ff_OU_weepADay_100 x v0 else (if ixb v2 (ln (rf v0 2)) = true then (if (gi x (rf v0 2) (ix v2)) = 1000000 then ff_OU_weepADay_11 n x v0 v1 (v2 + 1) else ff_OU_weepADay_30 (ff_OU_weepADay_11 n) FU x v0 v1 v2 0) else none)) = some (r, x') := hf
    refine lv_iload_n hx hb dd_OU_weepADay_11 rfl (lv_at hl 2 rfl) ?_
    refine lv_bipush (v := 100) hx hb dd_OU_weepADay_12 (by decide) ?_
    refine lv_icmp_ge (tgt := 100) hx hb dd_OU_weepADay_14 (by decide) (fun h_4 => ?_) (fun h_4 => ?_)
    · have hf := (if_pos h_4).symm.trans hf
      exact ww_OU_weepADay_100 C0 hap  ho_v0 hf hP hS (lv_sub hl [0] rfl)
    · have hf := (if_neg h_4).symm.trans hf
      refine lv_aload_n hx hb dd_OU_weepADay_17 rfl (lv_at hl 0 rfl) ?_
      refine gf_OU_18 C0 hP ho_v0 dd_OU_weepADay_18 ?_
      refine lv_iload_n hx hb dd_OU_weepADay_21 rfl (lv_at hl 2 rfl) ?_
      obtain ⟨h_8, hf⟩ := of_ifb hf
      refine raI C0 hP (tp_2_2 ho_v0) h_8 dd_OU_weepADay_22 ?_
      refine lv_ldc (v := 1000000) hx hb hown (hts _ gw_k_OU_45) dd_OU_weepADay_23 ?_
      refine lv_icmp_eq (tgt := 94) hx hb dd_OU_weepADay_25 (by decide) (fun h_9 => ?_) (fun h_9 => ?_)
      · have hf := (if_pos h_9).symm.trans hf
        refine lv_iinc (v := v2 + 1) (lv' := [(2, .int (v2 + 1)), (0, .ref (ad v0)), (1, .int v1)]) hx hb dd_OU_weepADay_94 hl (k := 2) rfl rfl (by decide) rfl (fun ls hl => ?_)
        refine lv_goto (tgt := 11) hx hb dd_OU_weepADay_97 (by decide) ?_
        exact ih x v0 v1 (v2 + 1) ho_v0 hf _ _ _ hP hS (lv_sub hl [1, 2, 0] rfl)
      · have hf := (if_neg h_9).symm.trans hf
        refine lv_iconst (v := 0) hx hb dd_OU_weepADay_28 (by decide) ?_
        refine lv_istore_n (lv' := [(3, .int 0), (0, .ref (ad v0)), (1, .int v1), (2, .int v2)]) hx hb dd_OU_weepADay_29 rfl hl (by decide) rfl (fun ls hl => ?_)
        exact ww_OU_weepADay_30 C0 hap ih FU x v0 v1 v2 0 ho_v0 hf _ _ _ hP hS (lv_sub hl [1, 2, 3, 0] rfl)
set_option maxHeartbeats 4000000 in
set_option maxRecDepth 100000 in
theorem ww_OU_weepADay {p : Program} {l : Launch} {e : Env} {s : State} {m : MethodId} {args : Array Value} {below : List Frame} {meth : Method} {c : Code} {E : Ev} {A : Nat → Prop} {ad : Nat → Nat} {r : Unit} {x' : St} (C0 : Cx E A ROU bb_OU_weepADay 5 (none) p s m args meth c) (hap : Ap ad ixC A)  {x : St} {v0 : Nat} {v1 : Int32} (ho_v0 : isO ixC v0 2) (hf : ff_OU_weepADay x v0 v1 = some (r, x')) {H : Heap} {locs : List Loc} {ls : Array Slot} (hP : Wd E ad ixC x H) (hS : va_S A s.heap H locs) (hl : lv_has ls 5 [(0, .ref (ad v0)), (1, .int v1)]) : W p l e rm_OU_weepADay s m args below meth c H locs 0 0 (MQ below (QX E ad ixC A (none) x') args s 0 0 A) (F0 m 0 ls []) := by
  obtain ⟨hx, hb, hml, hr, hown, hts, hlk, hK⟩ := id C0
  have hf : bnd (ff_AR_fillI x (rf v0 3) 1000000) (fun _ x_2 => ff_OU_weepADay_11 FU x_2 v0 v1 0) = some (r, x') := hf
  refine lv_aload_n hx hb dd_OU_weepADay_0 rfl (lv_at hl 0 rfl) ?_
  refine gf_OU_21 C0 hP ho_v0 dd_OU_weepADay_1 ?_
  refine lv_ldc (v := 1000000) hx hb hown (hts _ gw_k_OU_45) dd_OU_weepADay_4 ?_
  obtain ⟨_, x_2, c_3, hf⟩ := of_bnd hf
  refine cl_OU_46 C0 hap (tp_2_3 ho_v0) c_3 hP hS ⟨Nat.le_of_ble_eq_true rfl, Nat.le_of_ble_eq_true rfl⟩ hl.1 (Nat.le_of_ble_eq_true rfl) dd_OU_weepADay_6 ⟨Nat.le_refl _, Nat.le_refl _⟩ (fun H locs hP hS => ?_)
  refine lv_iconst (v := 0) hx hb dd_OU_weepADay_9 (by decide) ?_
  refine lv_istore_n (lv' := [(2, .int 0), (0, .ref (ad v0)), (1, .int v1)]) hx hb dd_OU_weepADay_10 rfl hl (by decide) rfl (fun ls hl => ?_)
  exact ww_OU_weepADay_11 C0 hap  FU x_2 v0 v1 0 ho_v0 hf _ _ _ hP hS (lv_sub hl [1, 2, 0] rfl)
theorem cc_OU_weepADay {l : Launch} {E : Ev} {A : Nat → Prop} {ad : Nat → Nat} (hap : Ap ad ixC A) {x x' : St} {v0 : Nat} {v1 : Int32} {r : Unit} (ho_v0 : isO ixC v0 2) (hf : ff_OU_weepADay x v0 v1 = some (r, x')) : Met l yy_OU_weepADay (Cond.code yy_OU_weepADay bb_OU_weepADay 5 (none) :: gtb) rm_OU_weepADay (va_Pc [.ref (ad v0), .int v1] (PB E A ad ixC x)) (QX E ad ixC A (none) x') 0 0 A := by
  exact enter (by decide) (Nat.le_of_ble_eq_true rfl) (fun p e s m below meth c ls C0 hP hS hl => ww_OU_weepADay C0 hap ho_v0 hf hP hS hl)
theorem cl_OU_37 {p : Program} {l : Launch} {e : Env} {R : Room} {s : State} {m : MethodId} {args : Array Value} {below : List Frame} {meth : Method} {c : Code} {H : Heap} {locs : List Loc} {cells slots : Nat} {Q : State → Prop} {cc : ByteArray} {pc : Nat} {ls : Array Slot} {rest : List Value} {E : Ev} {A : Nat → Prop} {ad : Nat → Nat} {nL : Nat} {rt : Option FieldType} (C0 : Cx E A ROU cc nL rt p s m args meth c) (hap : Ap ad ixC A) {x x' : St} {v0 : Nat} {v1 : Int32} {v2 : Int32} {r : Int32} (ho_v0 : isO ixC v0 4) (hc : ff_SH_griefOn x v0 v1 v2 = some (r, x')) (hP : Wd E ad ixC x H) (hS : va_S A s.heap H locs) (hR : rm_SH_griefOn.frames + 1 ≤ R.frames ∧ 8 + (3 + 11) + rm_SH_griefOn.locals ≤ R.locals) (hls : ls.size = nL) (hroom : (rest.map fun v => v.category).sum ≤ 8) (hdg : decode cc pc = .ok (.invokevirtual 37, 3)) (hf : cells ≤ R.cells ∧ slots ≤ R.slots) (kk : ∀ H1 locs1, Wd E ad ixC x' H1 → va_S A s.heap H1 locs1 → W p l e R s m args below meth c H1 locs1 cells slots Q (F0 m (pc + 3) ls (.int r :: rest))) : W p l e R s m args below meth c H locs cells slots Q (F0 m pc ls (.int v2 :: .int v1 :: .ref (ad v0) :: rest)) :=
  rcV (n := 2) C0 (cc_SH_griefOn hap ho_v0 hc) hP hS ho_v0 vcl_4 (by decide) gw_code_SH_griefOn gw_m_OU_37 gw_inst_SH_griefOn gw_sel_SH_griefOn gw_ini_SH rfl rfl (by decide +kernel) rfl hR hls rfl hroom hdg hf (fun H1 locs1 a _ _ b => kk H1 locs1 a b)
theorem cl_OU_52 {p : Program} {l : Launch} {e : Env} {R : Room} {s : State} {m : MethodId} {args : Array Value} {below : List Frame} {meth : Method} {c : Code} {H : Heap} {locs : List Loc} {cells slots : Nat} {Q : State → Prop} {cc : ByteArray} {pc : Nat} {ls : Array Slot} {rest : List Value} {E : Ev} {A : Nat → Prop} {ad : Nat → Nat} {nL : Nat} {rt : Option FieldType} (C0 : Cx E A ROU cc nL rt p s m args meth c) (hap : Ap ad ixC A) {x x' : St} {v0 : Nat} {v1 : Nat} {v2 : Int32} {v3 : Int32} {r : Unit} (ho_v0 : isO ixC v0 4) (ho_v1 : isO ixC v1 20) (hc : ff_SH_fillNextGriefs x v0 v1 v2 v3 = some (r, x')) (hP : Wd E ad ixC x H) (hS : va_S A s.heap H locs) (hR : rm_SH_fillNextGriefs.frames + 1 ≤ R.frames ∧ 8 + (7 + 11) + rm_SH_fillNextGriefs.locals ≤ R.locals) (hls : ls.size = nL) (hroom : (rest.map fun v => v.category).sum ≤ 8) (hdg : decode cc pc = .ok (.invokevirtual 52, 3)) (hf : cells ≤ R.cells ∧ slots ≤ R.slots) (kk : ∀ H1 locs1, Wd E ad ixC x' H1 → va_S A s.heap H1 locs1 → W p l e R s m args below meth c H1 locs1 cells slots Q (F0 m (pc + 3) ls (rest))) : W p l e R s m args below meth c H locs cells slots Q (F0 m pc ls (.int v3 :: .int v2 :: .ref (ad v1) :: .ref (ad v0) :: rest)) :=
  rcV (n := 3) C0 (cc_SH_fillNextGriefs hap ho_v0 ho_v1 hc) hP hS ho_v0 vcl_4 (by decide) gw_code_SH_fillNextGriefs gw_m_OU_52 gw_inst_SH_fillNextGriefs gw_sel_SH_fillNextGriefs gw_ini_SH rfl rfl (by decide +kernel) rfl hR hls rfl hroom hdg hf (fun H1 locs1 a _ _ b => kk H1 locs1 a b)
theorem cl_OU_56 {p : Program} {l : Launch} {e : Env} {R : Room} {s : State} {m : MethodId} {args : Array Value} {below : List Frame} {meth : Method} {c : Code} {H : Heap} {locs : List Loc} {cells slots : Nat} {Q : State → Prop} {cc : ByteArray} {pc : Nat} {ls : Array Slot} {rest : List Value} {E : Ev} {A : Nat → Prop} {ad : Nat → Nat} {nL : Nat} {rt : Option FieldType} (C0 : Cx E A ROU cc nL rt p s m args meth c) (hap : Ap ad ixC A) {x x' : St} {v0 : Nat} {v1 : Int32} {r : Unit} (ho_v0 : isO ixC v0 2) (hc : ff_OU_weepADay x v0 v1 = some (r, x')) (hP : Wd E ad ixC x H) (hS : va_S A s.heap H locs) (hR : rm_OU_weepADay.frames + 1 ≤ R.frames ∧ 8 + (5 + 11) + rm_OU_weepADay.locals ≤ R.locals) (hls : ls.size = nL) (hroom : (rest.map fun v => v.category).sum ≤ 8) (hdg : decode cc pc = .ok (.invokevirtual 56, 3)) (hf : cells ≤ R.cells ∧ slots ≤ R.slots) (kk : ∀ H1 locs1, Wd E ad ixC x' H1 → va_S A s.heap H1 locs1 → W p l e R s m args below meth c H1 locs1 cells slots Q (F0 m (pc + 3) ls (rest))) : W p l e R s m args below meth c H locs cells slots Q (F0 m pc ls (.int v1 :: .ref (ad v0) :: rest)) :=
  rcV (n := 1) C0 (cc_OU_weepADay hap ho_v0 hc) hP hS ho_v0 vcl_2 (by decide) gw_code_OU_weepADay gw_m_OU_56 gw_inst_OU_weepADay gw_sel_OU_weepADay gw_ini_OU rfl rfl (by decide +kernel) rfl hR hls rfl hroom hdg hf (fun H1 locs1 a _ _ b => kk H1 locs1 a b)
abbrev rm_OU_fewestOnions : Room := { frames := 4, cells := 0, slots := 0, locals := 92 }
theorem dd_OU_fewestOnions_0 : decode bb_OU_fewestOnions 0 = .ok (.aload_n 1, 1) := by decide +kernel
theorem dd_OU_fewestOnions_1 : decode bb_OU_fewestOnions 1 = .ok (.iload_n 2, 1) := by decide +kernel
theorem dd_OU_fewestOnions_2 : decode bb_OU_fewestOnions 2 = .ok (.aload_n 1, 1) := by decide +kernel
theorem dd_OU_fewestOnions_3 : decode bb_OU_fewestOnions 3 = .ok (.getfield 31, 3) := by decide +kernel
theorem dd_OU_fewestOnions_6 : decode bb_OU_fewestOnions 6 = .ok (.invokevirtual 37, 3) := by decide +kernel
theorem dd_OU_fewestOnions_9 : decode bb_OU_fewestOnions 9 = .ok (.istore 5, 2) := by decide +kernel
theorem dd_OU_fewestOnions_11 : decode bb_OU_fewestOnions 11 = .ok (.iload 5, 2) := by decide +kernel
theorem dd_OU_fewestOnions_13 : decode bb_OU_fewestOnions 13 = .ok (.iload_n 3, 1) := by decide +kernel
theorem dd_OU_fewestOnions_14 : decode bb_OU_fewestOnions 14 = .ok (.bipush 99, 2) := by decide +kernel
theorem dd_OU_fewestOnions_16 : decode bb_OU_fewestOnions 16 = .ok (.invokestatic 41, 3) := by decide +kernel
theorem dd_OU_fewestOnions_19 : decode bb_OU_fewestOnions 19 = .ok (.ifCond .ne 5, 3) := by decide +kernel
theorem dd_OU_fewestOnions_22 : decode bb_OU_fewestOnions 22 = .ok (.iconst (-1), 1) := by decide +kernel
theorem dd_OU_fewestOnions_23 : decode bb_OU_fewestOnions 23 = .ok (.ireturn, 1) := by decide +kernel
theorem dd_OU_fewestOnions_24 : decode bb_OU_fewestOnions 24 = .ok (.aload_n 0, 1) := by decide +kernel
theorem dd_OU_fewestOnions_25 : decode bb_OU_fewestOnions 25 = .ok (.getfield 18, 3) := by decide +kernel
theorem dd_OU_fewestOnions_28 : decode bb_OU_fewestOnions 28 = .ok (.ldc 45, 2) := by decide +kernel
theorem dd_OU_fewestOnions_30 : decode bb_OU_fewestOnions 30 = .ok (.invokestatic 46, 3) := by decide +kernel
theorem dd_OU_fewestOnions_33 : decode bb_OU_fewestOnions 33 = .ok (.aload_n 0, 1) := by decide +kernel
theorem dd_OU_fewestOnions_34 : decode bb_OU_fewestOnions 34 = .ok (.getfield 18, 3) := by decide +kernel
theorem dd_OU_fewestOnions_37 : decode bb_OU_fewestOnions 37 = .ok (.iload 5, 2) := by decide +kernel
theorem dd_OU_fewestOnions_39 : decode bb_OU_fewestOnions 39 = .ok (.iconst 0, 1) := by decide +kernel
theorem dd_OU_fewestOnions_40 : decode bb_OU_fewestOnions 40 = .ok (.iastore, 1) := by decide +kernel
theorem dd_OU_fewestOnions_41 : decode bb_OU_fewestOnions 41 = .ok (.aload_n 1, 1) := by decide +kernel
theorem dd_OU_fewestOnions_42 : decode bb_OU_fewestOnions 42 = .ok (.getfield 31, 3) := by decide +kernel
theorem dd_OU_fewestOnions_45 : decode bb_OU_fewestOnions 45 = .ok (.iconst 1, 1) := by decide +kernel
theorem dd_OU_fewestOnions_46 : decode bb_OU_fewestOnions 46 = .ok (.iadd, 1) := by decide +kernel
theorem dd_OU_fewestOnions_47 : decode bb_OU_fewestOnions 47 = .ok (.istore 6, 2) := by decide +kernel
theorem dd_OU_fewestOnions_49 : decode bb_OU_fewestOnions 49 = .ok (.iload 6, 2) := by decide +kernel
theorem dd_OU_fewestOnions_51 : decode bb_OU_fewestOnions 51 = .ok (.iload 4, 2) := by decide +kernel
theorem dd_OU_fewestOnions_53 : decode bb_OU_fewestOnions 53 = .ok (.if_icmp .gt 25, 3) := by decide +kernel
theorem dd_OU_fewestOnions_56 : decode bb_OU_fewestOnions 56 = .ok (.aload_n 1, 1) := by decide +kernel
theorem dd_OU_fewestOnions_57 : decode bb_OU_fewestOnions 57 = .ok (.aload_n 0, 1) := by decide +kernel
theorem dd_OU_fewestOnions_58 : decode bb_OU_fewestOnions 58 = .ok (.getfield 15, 3) := by decide +kernel
theorem dd_OU_fewestOnions_61 : decode bb_OU_fewestOnions 61 = .ok (.iload_n 2, 1) := by decide +kernel
theorem dd_OU_fewestOnions_62 : decode bb_OU_fewestOnions 62 = .ok (.iload 6, 2) := by decide +kernel
theorem dd_OU_fewestOnions_64 : decode bb_OU_fewestOnions 64 = .ok (.invokevirtual 52, 3) := by decide +kernel
theorem dd_OU_fewestOnions_67 : decode bb_OU_fewestOnions 67 = .ok (.aload_n 0, 1) := by decide +kernel
theorem dd_OU_fewestOnions_68 : decode bb_OU_fewestOnions 68 = .ok (.iload_n 3, 1) := by decide +kernel
theorem dd_OU_fewestOnions_69 : decode bb_OU_fewestOnions 69 = .ok (.invokevirtual 56, 3) := by decide +kernel
theorem dd_OU_fewestOnions_72 : decode bb_OU_fewestOnions 72 = .ok (.iinc 6 1, 3) := by decide +kernel
theorem dd_OU_fewestOnions_75 : decode bb_OU_fewestOnions 75 = .ok (.goto (-26), 3) := by decide +kernel
theorem dd_OU_fewestOnions_78 : decode bb_OU_fewestOnions 78 = .ok (.ldc 45, 2) := by decide +kernel
theorem dd_OU_fewestOnions_80 : decode bb_OU_fewestOnions 80 = .ok (.istore 6, 2) := by decide +kernel
theorem dd_OU_fewestOnions_82 : decode bb_OU_fewestOnions 82 = .ok (.iconst 0, 1) := by decide +kernel
theorem dd_OU_fewestOnions_83 : decode bb_OU_fewestOnions 83 = .ok (.istore 7, 2) := by decide +kernel
theorem dd_OU_fewestOnions_85 : decode bb_OU_fewestOnions 85 = .ok (.iload 7, 2) := by decide +kernel
theorem dd_OU_fewestOnions_87 : decode bb_OU_fewestOnions 87 = .ok (.bipush 100, 2) := by decide +kernel
theorem dd_OU_fewestOnions_89 : decode bb_OU_fewestOnions 89 = .ok (.if_icmp .ge 23, 3) := by decide +kernel
theorem dd_OU_fewestOnions_92 : decode bb_OU_fewestOnions 92 = .ok (.iload 6, 2) := by decide +kernel
theorem dd_OU_fewestOnions_94 : decode bb_OU_fewestOnions 94 = .ok (.aload_n 0, 1) := by decide +kernel
theorem dd_OU_fewestOnions_95 : decode bb_OU_fewestOnions 95 = .ok (.getfield 18, 3) := by decide +kernel
theorem dd_OU_fewestOnions_98 : decode bb_OU_fewestOnions 98 = .ok (.iload 7, 2) := by decide +kernel
theorem dd_OU_fewestOnions_100 : decode bb_OU_fewestOnions 100 = .ok (.iaload, 1) := by decide +kernel
theorem dd_OU_fewestOnions_101 : decode bb_OU_fewestOnions 101 = .ok (.invokestatic 60, 3) := by decide +kernel
theorem dd_OU_fewestOnions_104 : decode bb_OU_fewestOnions 104 = .ok (.istore 6, 2) := by decide +kernel
theorem dd_OU_fewestOnions_106 : decode bb_OU_fewestOnions 106 = .ok (.iinc 7 1, 3) := by decide +kernel
theorem dd_OU_fewestOnions_109 : decode bb_OU_fewestOnions 109 = .ok (.goto (-24), 3) := by decide +kernel
theorem dd_OU_fewestOnions_112 : decode bb_OU_fewestOnions 112 = .ok (.iload 6, 2) := by decide +kernel
theorem dd_OU_fewestOnions_114 : decode bb_OU_fewestOnions 114 = .ok (.ldc 45, 2) := by decide +kernel
theorem dd_OU_fewestOnions_116 : decode bb_OU_fewestOnions 116 = .ok (.if_icmp .ne 7, 3) := by decide +kernel
theorem dd_OU_fewestOnions_119 : decode bb_OU_fewestOnions 119 = .ok (.iconst (-1), 1) := by decide +kernel
theorem dd_OU_fewestOnions_120 : decode bb_OU_fewestOnions 120 = .ok (.goto 5, 3) := by decide +kernel
theorem dd_OU_fewestOnions_123 : decode bb_OU_fewestOnions 123 = .ok (.iload 6, 2) := by decide +kernel
theorem dd_OU_fewestOnions_125 : decode bb_OU_fewestOnions 125 = .ok (.ireturn, 1) := by decide +kernel
def ff_OU_fewestOnions_112  (x : St) (v6 : Int32) : Option (Int32 × St) := (if v6 = 1000000 then some ((-1), x) else some (v6, x))
def ff_OU_fewestOnions_85  : Nat → St → Nat → Int32 → Int32 → Option (Int32 × St)
  | 0, _, _, _, _ => none
  | n + 1, x, v0, v6, v7 => (if 100 ≤ v7 then ff_OU_fewestOnions_112 x v6 else (if ixb v7 (ln (rf v0 2)) = true then li (imin v6 (gi x (rf v0 2) (ix v7))) (fun u_17 => ff_OU_fewestOnions_85 n x v0 u_17 (v7 + 1)) else none))
def ff_OU_fewestOnions_78  (x : St) (v0 : Nat) : Option (Int32 × St) := ff_OU_fewestOnions_85 FU x v0 1000000 0
def ff_OU_fewestOnions_49  : Nat → St → Nat → Nat → Int32 → Int32 → Int32 → Int32 → Option (Int32 × St)
  | 0, _, _, _, _, _, _, _ => none
  | n + 1, x, v0, v1, v2, v3, v4, v6 => (if v4 < v6 then ff_OU_fewestOnions_78 x v0 else bnd (ff_SH_fillNextGriefs x v1 (rf v0 1) v2 v6) (fun _ x_19 => bnd (ff_OU_weepADay x_19 v0 v3) (fun _ x_22 => ff_OU_fewestOnions_49 n x_22 v0 v1 v2 v3 v4 (v6 + 1))))
def ff_OU_fewestOnions  (x : St) (v0 : Nat) (v1 : Nat) (v2 : Int32) (v3 : Int32) (v4 : Int32) : Option (Int32 × St) := bnd (ff_SH_griefOn x v1 v2 (gi x v1 9)) (fun r_1 x_2 => bnd (ff_GG_isWithin x_2 r_1 v3 99) (fun r_4 x_5 => (if r_4 = 0 then some ((-1), x_5) else bnd (ff_AR_fillI x_5 (rf v0 2) 1000000) (fun _ x_9 => (if ixb r_1 (ln (rf v0 2)) = true then st (si x_9 (rf v0 2) (ix r_1) 0) (fun x_12 => ff_OU_fewestOnions_49 FU x_12 v0 v1 v2 v3 v4 ((gi x_12 v1 9) + 1)) else none)))))
set_option maxHeartbeats 4000000 in
set_option maxRecDepth 100000 in
theorem ww_OU_fewestOnions_112 {p : Program} {l : Launch} {e : Env} {s : State} {m : MethodId} {args : Array Value} {below : List Frame} {meth : Method} {c : Code} {E : Ev} {A : Nat → Prop} {ad : Nat → Nat} {r : Int32} {x' : St} (C0 : Cx E A ROU bb_OU_fewestOnions 8 (some .int) p s m args meth c) (hap : Ap ad ixC A)  {x : St} {v6 : Int32}  (hf : ff_OU_fewestOnions_112 x v6 = some (r, x')) {H : Heap} {locs : List Loc} {ls : Array Slot} (hP : Wd E ad ixC x H) (hS : va_S A s.heap H locs) (hl : lv_has ls 8 [(6, .int v6)]) : W p l e rm_OU_fewestOnions s m args below meth c H locs 0 0 (MQ below (QX E ad ixC A (some (.int r)) x') args s 0 0 A) (F0 m 112 ls []) := by
  obtain ⟨hx, hb, hml, hr, hown, hts, hlk, hK⟩ := id C0
  have hf : (if v6 = 1000000 then some ((-1), x) else some (v6, x)) = some (r, x') := hf
  refine lv_iload hx hb dd_OU_fewestOnions_112 (lv_at hl 0 rfl) ?_
  refine lv_ldc (v := 1000000) hx hb hown (hts _ gw_k_OU_45) dd_OU_fewestOnions_114 ?_
  refine lv_icmp_ne (tgt := 123) hx hb dd_OU_fewestOnions_116 (by decide) (fun h_15 => ?_) (fun h_15 => ?_)
  · have hf := (if_neg h_15).symm.trans hf
    refine lv_iload hx hb dd_OU_fewestOnions_123 (lv_at hl 0 rfl) ?_
    exact rrI C0 hP hS dd_OU_fewestOnions_125 hf
  · have hf := (if_pos h_15).symm.trans hf
    refine lv_iconst (v := -1) hx hb dd_OU_fewestOnions_119 (by decide) ?_
    refine lv_goto (tgt := 125) hx hb dd_OU_fewestOnions_120 (by decide) ?_
    exact rrI C0 hP hS dd_OU_fewestOnions_125 hf
set_option maxHeartbeats 4000000 in
set_option maxRecDepth 100000 in
theorem ww_OU_fewestOnions_85 {p : Program} {l : Launch} {e : Env} {s : State} {m : MethodId} {args : Array Value} {below : List Frame} {meth : Method} {c : Code} {E : Ev} {A : Nat → Prop} {ad : Nat → Nat} {r : Int32} {x' : St} (C0 : Cx E A ROU bb_OU_fewestOnions 8 (some .int) p s m args meth c) (hap : Ap ad ixC A)  : ∀ (n : Nat), ∀ (x : St) (v0 : Nat) (v6 : Int32) (v7 : Int32), (isO ixC v0 2) → ff_OU_fewestOnions_85 n x v0 v6 v7 = some (r, x') → ∀ (H : Heap) (locs : List Loc) (ls : Array Slot), Wd E ad ixC x H → va_S A s.heap H locs → lv_has ls 8 [(0, .ref (ad v0)), (6, .int v6), (7, .int v7)] → W p l e rm_OU_fewestOnions s m args below meth c H locs 0 0 (MQ below (QX E ad ixC A (some (.int r)) x') args s 0 0 A) (F0 m 85 ls []) := by
  obtain ⟨hx, hb, hml, hr, hown, hts, hlk, hK⟩ := id C0
  intro n
  induction n with
  | zero => intro x v0 v6 v7 ho_v0 hf; exact of_no hf
  | succ n ih =>
    intro x v0 v6 v7 ho_v0 hf H locs ls hP hS hl
    have hf : (if 100 ≤ v7 then ff_OU_fewestOnions_112 x v6 else (if ixb v7 (ln (rf v0 2)) = true then li (imin v6 (gi x (rf v0 2) (ix v7))) (fun u_17 => ff_OU_fewestOnions_85 n x v0 u_17 (v7 + 1)) else none)) = some (r, x') := hf
    refine lv_iload hx hb dd_OU_fewestOnions_85 (lv_at hl 2 rfl) ?_
    refine lv_bipush (v := 100) hx hb dd_OU_fewestOnions_87 (by decide) ?_
    refine lv_icmp_ge (tgt := 112) hx hb dd_OU_fewestOnions_89 (by decide) (fun h_14 => ?_) (fun h_14 => ?_)
    · have hf := (if_pos h_14).symm.trans hf
      exact ww_OU_fewestOnions_112 C0 hap   hf hP hS (lv_sub hl [1] rfl)
    · have hf := (if_neg h_14).symm.trans hf
      refine lv_iload hx hb dd_OU_fewestOnions_92 (lv_at hl 1 rfl) ?_
      refine lv_aload_n hx hb dd_OU_fewestOnions_94 rfl (lv_at hl 0 rfl) ?_
      refine gf_OU_18 C0 hP ho_v0 dd_OU_fewestOnions_95 ?_
      refine lv_iload hx hb dd_OU_fewestOnions_98 (lv_at hl 2 rfl) ?_
      obtain ⟨h_16, hf⟩ := of_ifb hf
      refine raI C0 hP (tp_2_2 ho_v0) h_16 dd_OU_fewestOnions_100 ?_
      refine rmin C0 hl.1 gw_m_OU_60 (Nat.le_of_ble_eq_true rfl) ⟨Nat.le_of_ble_eq_true rfl, Nat.le_of_ble_eq_true rfl⟩ ⟨Nat.le_refl _, Nat.le_refl _⟩ dd_OU_fewestOnions_101 ?_
      obtain ⟨u_17, eu_17, hf⟩ := of_li hf
      refine tpi eu_17 ?_
      refine lv_istore (lv' := [(6, .int u_17), (0, .ref (ad v0)), (7, .int v7)]) hx hb dd_OU_fewestOnions_104 hl (by decide) rfl (fun ls hl => ?_)
      refine lv_iinc (v := v7 + 1) (lv' := [(7, .int (v7 + 1)), (6, .int u_17), (0, .ref (ad v0))]) hx hb dd_OU_fewestOnions_106 hl (k := 2) rfl rfl (by decide) rfl (fun ls hl => ?_)
      refine lv_goto (tgt := 85) hx hb dd_OU_fewestOnions_109 (by decide) ?_
      exact ih x v0 u_17 (v7 + 1) ho_v0 hf _ _ _ hP hS (lv_sub hl [2, 1, 0] rfl)
set_option maxHeartbeats 4000000 in
set_option maxRecDepth 100000 in
theorem ww_OU_fewestOnions_78 {p : Program} {l : Launch} {e : Env} {s : State} {m : MethodId} {args : Array Value} {below : List Frame} {meth : Method} {c : Code} {E : Ev} {A : Nat → Prop} {ad : Nat → Nat} {r : Int32} {x' : St} (C0 : Cx E A ROU bb_OU_fewestOnions 8 (some .int) p s m args meth c) (hap : Ap ad ixC A)  {x : St} {v0 : Nat} (ho_v0 : isO ixC v0 2) (hf : ff_OU_fewestOnions_78 x v0 = some (r, x')) {H : Heap} {locs : List Loc} {ls : Array Slot} (hP : Wd E ad ixC x H) (hS : va_S A s.heap H locs) (hl : lv_has ls 8 [(0, .ref (ad v0))]) : W p l e rm_OU_fewestOnions s m args below meth c H locs 0 0 (MQ below (QX E ad ixC A (some (.int r)) x') args s 0 0 A) (F0 m 78 ls []) := by
  obtain ⟨hx, hb, hml, hr, hown, hts, hlk, hK⟩ := id C0
  have hf : ff_OU_fewestOnions_85 FU x v0 1000000 0 = some (r, x') := hf
  refine lv_ldc (v := 1000000) hx hb hown (hts _ gw_k_OU_45) dd_OU_fewestOnions_78 ?_
  refine lv_istore (lv' := [(6, .int 1000000), (0, .ref (ad v0))]) hx hb dd_OU_fewestOnions_80 hl (by decide) rfl (fun ls hl => ?_)
  refine lv_iconst (v := 0) hx hb dd_OU_fewestOnions_82 (by decide) ?_
  refine lv_istore (lv' := [(7, .int 0), (6, .int 1000000), (0, .ref (ad v0))]) hx hb dd_OU_fewestOnions_83 hl (by decide) rfl (fun ls hl => ?_)
  exact ww_OU_fewestOnions_85 C0 hap  FU x v0 1000000 0 ho_v0 hf _ _ _ hP hS (lv_sub hl [2, 1, 0] rfl)
set_option maxHeartbeats 4000000 in
set_option maxRecDepth 100000 in
theorem ww_OU_fewestOnions_49 {p : Program} {l : Launch} {e : Env} {s : State} {m : MethodId} {args : Array Value} {below : List Frame} {meth : Method} {c : Code} {E : Ev} {A : Nat → Prop} {ad : Nat → Nat} {r : Int32} {x' : St} (C0 : Cx E A ROU bb_OU_fewestOnions 8 (some .int) p s m args meth c) (hap : Ap ad ixC A)  : ∀ (n : Nat), ∀ (x : St) (v0 : Nat) (v1 : Nat) (v2 : Int32) (v3 : Int32) (v4 : Int32) (v6 : Int32), (isO ixC v0 2) → (isO ixC v1 4) → ff_OU_fewestOnions_49 n x v0 v1 v2 v3 v4 v6 = some (r, x') → ∀ (H : Heap) (locs : List Loc) (ls : Array Slot), Wd E ad ixC x H → va_S A s.heap H locs → lv_has ls 8 [(0, .ref (ad v0)), (1, .ref (ad v1)), (2, .int v2), (3, .int v3), (4, .int v4), (6, .int v6)] → W p l e rm_OU_fewestOnions s m args below meth c H locs 0 0 (MQ below (QX E ad ixC A (some (.int r)) x') args s 0 0 A) (F0 m 49 ls []) := by
  obtain ⟨hx, hb, hml, hr, hown, hts, hlk, hK⟩ := id C0
  intro n
  induction n with
  | zero => intro x v0 v1 v2 v3 v4 v6 ho_v0 ho_v1 hf; exact of_no hf
  | succ n ih =>
    intro x v0 v1 v2 v3 v4 v6 ho_v0 ho_v1 hf H locs ls hP hS hl
    have hf : (if v4 < v6 then ff_OU_fewestOnions_78 x v0 else bnd (ff_SH_fillNextGriefs x v1 (rf v0 1) v2 v6) (fun _ x_19 => bnd (ff_OU_weepADay x_19 v0 v3) (fun _ x_22 => ff_OU_fewestOnions_49 n x_22 v0 v1 v2 v3 v4 (v6 + 1)))) = some (r, x') := hf
    refine lv_iload hx hb dd_OU_fewestOnions_49 (lv_at hl 5 rfl) ?_
    refine lv_iload hx hb dd_OU_fewestOnions_51 (lv_at hl 4 rfl) ?_
    refine lv_icmp_gt (tgt := 78) hx hb dd_OU_fewestOnions_53 (by decide) (fun h_13 => ?_) (fun h_13 => ?_)
    · have hf := (if_pos h_13).symm.trans hf
      exact ww_OU_fewestOnions_78 C0 hap  ho_v0 hf hP hS (lv_sub hl [0] rfl)
    · have hf := (if_neg h_13).symm.trans hf
      refine lv_aload_n hx hb dd_OU_fewestOnions_56 rfl (lv_at hl 1 rfl) ?_
      refine lv_aload_n hx hb dd_OU_fewestOnions_57 rfl (lv_at hl 0 rfl) ?_
      refine gf_OU_15 C0 hP ho_v0 dd_OU_fewestOnions_58 ?_
      refine lv_iload_n hx hb dd_OU_fewestOnions_61 rfl (lv_at hl 2 rfl) ?_
      refine lv_iload hx hb dd_OU_fewestOnions_62 (lv_at hl 5 rfl) ?_
      obtain ⟨_, x_19, c_20, hf⟩ := of_bnd hf
      refine cl_OU_52 C0 hap ho_v1 (tp_2_1 ho_v0) c_20 hP hS ⟨Nat.le_of_ble_eq_true rfl, Nat.le_of_ble_eq_true rfl⟩ hl.1 (Nat.le_of_ble_eq_true rfl) dd_OU_fewestOnions_64 ⟨Nat.le_refl _, Nat.le_refl _⟩ (fun H locs hP hS => ?_)
      refine lv_aload_n hx hb dd_OU_fewestOnions_67 rfl (lv_at hl 0 rfl) ?_
      refine lv_iload_n hx hb dd_OU_fewestOnions_68 rfl (lv_at hl 3 rfl) ?_
      obtain ⟨_, x_22, c_23, hf⟩ := of_bnd hf
      refine cl_OU_56 C0 hap ho_v0 c_23 hP hS ⟨Nat.le_of_ble_eq_true rfl, Nat.le_of_ble_eq_true rfl⟩ hl.1 (Nat.le_of_ble_eq_true rfl) dd_OU_fewestOnions_69 ⟨Nat.le_refl _, Nat.le_refl _⟩ (fun H locs hP hS => ?_)
      refine lv_iinc (v := v6 + 1) (lv' := [(6, .int (v6 + 1)), (0, .ref (ad v0)), (1, .ref (ad v1)), (2, .int v2), (3, .int v3), (4, .int v4)]) hx hb dd_OU_fewestOnions_72 hl (k := 5) rfl rfl (by decide) rfl (fun ls hl => ?_)
      refine lv_goto (tgt := 49) hx hb dd_OU_fewestOnions_75 (by decide) ?_
      exact ih x_22 v0 v1 v2 v3 v4 (v6 + 1) ho_v0 ho_v1 hf _ _ _ hP hS (lv_sub hl [1, 2, 3, 4, 5, 0] rfl)
set_option maxHeartbeats 4000000 in
set_option maxRecDepth 100000 in
theorem ww_OU_fewestOnions {p : Program} {l : Launch} {e : Env} {s : State} {m : MethodId} {args : Array Value} {below : List Frame} {meth : Method} {c : Code} {E : Ev} {A : Nat → Prop} {ad : Nat → Nat} {r : Int32} {x' : St} (C0 : Cx E A ROU bb_OU_fewestOnions 8 (some .int) p s m args meth c) (hap : Ap ad ixC A)  {x : St} {v0 : Nat} {v1 : Nat} {v2 : Int32} {v3 : Int32} {v4 : Int32} (ho_v0 : isO ixC v0 2) (ho_v1 : isO ixC v1 4) (hf : ff_OU_fewestOnions x v0 v1 v2 v3 v4 = some (r, x')) {H : Heap} {locs : List Loc} {ls : Array Slot} (hP : Wd E ad ixC x H) (hS : va_S A s.heap H locs) (hl : lv_has ls 8 [(0, .ref (ad v0)), (1, .ref (ad v1)), (2, .int v2), (3, .int v3), (4, .int v4)]) : W p l e rm_OU_fewestOnions s m args below meth c H locs 0 0 (MQ below (QX E ad ixC A (some (.int r)) x') args s 0 0 A) (F0 m 0 ls []) := by
  obtain ⟨hx, hb, hml, hr, hown, hts, hlk, hK⟩ := id C0
  have hf : bnd (ff_SH_griefOn x v1 v2 (gi x v1 9)) (fun r_1 x_2 => bnd (ff_GG_isWithin x_2 r_1 v3 99) (fun r_4 x_5 => (if r_4 = 0 then some ((-1), x_5) else bnd (ff_AR_fillI x_5 (rf v0 2) 1000000) (fun _ x_9 => (if ixb r_1 (ln (rf v0 2)) = true then st (si x_9 (rf v0 2) (ix r_1) 0) (fun x_12 => ff_OU_fewestOnions_49 FU x_12 v0 v1 v2 v3 v4 ((gi x_12 v1 9) + 1)) else none))))) = some (r, x') := hf
  refine lv_aload_n hx hb dd_OU_fewestOnions_0 rfl (lv_at hl 1 rfl) ?_
  refine lv_iload_n hx hb dd_OU_fewestOnions_1 rfl (lv_at hl 2 rfl) ?_
  refine lv_aload_n hx hb dd_OU_fewestOnions_2 rfl (lv_at hl 1 rfl) ?_
  refine gf_OU_31 C0 hP ho_v1 dd_OU_fewestOnions_3 ?_
  obtain ⟨r_1, x_2, c_3, hf⟩ := of_bnd hf
  refine cl_OU_37 C0 hap ho_v1 c_3 hP hS ⟨Nat.le_of_ble_eq_true rfl, Nat.le_of_ble_eq_true rfl⟩ hl.1 (Nat.le_of_ble_eq_true rfl) dd_OU_fewestOnions_6 ⟨Nat.le_refl _, Nat.le_refl _⟩ (fun H locs hP hS => ?_)
  refine lv_istore (lv' := [(5, .int r_1), (0, .ref (ad v0)), (1, .ref (ad v1)), (2, .int v2), (3, .int v3), (4, .int v4)]) hx hb dd_OU_fewestOnions_9 hl (by decide) rfl (fun ls hl => ?_)
  refine lv_iload hx hb dd_OU_fewestOnions_11 (lv_at hl 0 rfl) ?_
  refine lv_iload_n hx hb dd_OU_fewestOnions_13 rfl (lv_at hl 4 rfl) ?_
  refine lv_bipush (v := 99) hx hb dd_OU_fewestOnions_14 (by decide) ?_
  obtain ⟨r_4, x_5, c_6, hf⟩ := of_bnd hf
  refine cl_OU_41 C0 hap  c_6 hP hS ⟨Nat.le_of_ble_eq_true rfl, Nat.le_of_ble_eq_true rfl⟩ hl.1 (Nat.le_of_ble_eq_true rfl) dd_OU_fewestOnions_16 ⟨Nat.le_refl _, Nat.le_refl _⟩ (fun H locs hP hS => ?_)
  refine lv_if_ne (tgt := 24) hx hb dd_OU_fewestOnions_19 (by decide) (fun h_7 => ?_) (fun h_7 => ?_)
  · have hf := (if_neg h_7).symm.trans hf
    refine lv_aload_n hx hb dd_OU_fewestOnions_24 rfl (lv_at hl 1 rfl) ?_
    refine gf_OU_18 C0 hP ho_v0 dd_OU_fewestOnions_25 ?_
    refine lv_ldc (v := 1000000) hx hb hown (hts _ gw_k_OU_45) dd_OU_fewestOnions_28 ?_
    obtain ⟨_, x_9, c_10, hf⟩ := of_bnd hf
    refine cl_OU_46 C0 hap (tp_2_2 ho_v0) c_10 hP hS ⟨Nat.le_of_ble_eq_true rfl, Nat.le_of_ble_eq_true rfl⟩ hl.1 (Nat.le_of_ble_eq_true rfl) dd_OU_fewestOnions_30 ⟨Nat.le_refl _, Nat.le_refl _⟩ (fun H locs hP hS => ?_)
    refine lv_aload_n hx hb dd_OU_fewestOnions_33 rfl (lv_at hl 1 rfl) ?_
    refine gf_OU_18 C0 hP ho_v0 dd_OU_fewestOnions_34 ?_
    refine lv_iload hx hb dd_OU_fewestOnions_37 (lv_at hl 0 rfl) ?_
    refine lv_iconst (v := 0) hx hb dd_OU_fewestOnions_39 (by decide) ?_
    obtain ⟨h_11, hf⟩ := of_ifb hf
    obtain ⟨x_12, hx_12, hf⟩ := of_st hf
    refine sI C0 hap hP hS (tp_2_2 ho_v0) h_11 hx_12 dd_OU_fewestOnions_40 (fun H locs hP hS => ?_)
    refine lv_aload_n hx hb dd_OU_fewestOnions_41 rfl (lv_at hl 2 rfl) ?_
    refine gf_OU_31 C0 hP ho_v1 dd_OU_fewestOnions_42 ?_
    refine lv_iconst (v := 1) hx hb dd_OU_fewestOnions_45 (by decide) ?_
    refine lv_iadd hx hb dd_OU_fewestOnions_46 ?_
    refine lv_istore (lv' := [(6, .int ((gi x_12 v1 9) + 1)), (5, .int r_1), (0, .ref (ad v0)), (1, .ref (ad v1)), (2, .int v2), (3, .int v3), (4, .int v4)]) hx hb dd_OU_fewestOnions_47 hl (by decide) rfl (fun ls hl => ?_)
    exact ww_OU_fewestOnions_49 C0 hap  FU x_12 v0 v1 v2 v3 v4 ((gi x_12 v1 9) + 1) ho_v0 ho_v1 hf _ _ _ hP hS (lv_sub hl [2, 3, 4, 5, 6, 0] rfl)
  · have hf := (if_pos h_7).symm.trans hf
    refine lv_iconst (v := -1) hx hb dd_OU_fewestOnions_22 (by decide) ?_
    exact rrI C0 hP hS dd_OU_fewestOnions_23 hf
theorem cc_OU_fewestOnions {l : Launch} {E : Ev} {A : Nat → Prop} {ad : Nat → Nat} (hap : Ap ad ixC A) {x x' : St} {v0 : Nat} {v1 : Nat} {v2 : Int32} {v3 : Int32} {v4 : Int32} {r : Int32} (ho_v0 : isO ixC v0 2) (ho_v1 : isO ixC v1 4) (hf : ff_OU_fewestOnions x v0 v1 v2 v3 v4 = some (r, x')) : Met l yy_OU_fewestOnions (Cond.code yy_OU_fewestOnions bb_OU_fewestOnions 8 (some .int) :: gtb) rm_OU_fewestOnions (va_Pc [.ref (ad v0), .ref (ad v1), .int v2, .int v3, .int v4] (PB E A ad ixC x)) (QX E ad ixC A (some (.int r)) x') 0 0 A := by
  exact enter (by decide) (Nat.le_of_ble_eq_true rfl) (fun p e s m below meth c ls C0 hP hS hl => ww_OU_fewestOnions C0 hap ho_v0 ho_v1 hf hP hS hl)
theorem cl_OU_71 {p : Program} {l : Launch} {e : Env} {R : Room} {s : State} {m : MethodId} {args : Array Value} {below : List Frame} {meth : Method} {c : Code} {H : Heap} {locs : List Loc} {cells slots : Nat} {Q : State → Prop} {cc : ByteArray} {pc : Nat} {ls : Array Slot} {rest : List Value} {E : Ev} {A : Nat → Prop} {ad : Nat → Nat} {nL : Nat} {rt : Option FieldType} (C0 : Cx E A ROU cc nL rt p s m args meth c) (hap : Ap ad ixC A) {x x' : St} {v0 : Nat} {v1 : Int64} {r : Unit} (ho_v0 : isO ixC v0 23) (hc : ff_AR_fillJ x v0 v1 = some (r, x')) (hP : Wd E ad ixC x H) (hS : va_S A s.heap H locs) (hR : rm_AR_fillJ.frames + 1 ≤ R.frames ∧ 8 + (5 + 11) + rm_AR_fillJ.locals ≤ R.locals) (hls : ls.size = nL) (hroom : (rest.map fun v => v.category).sum ≤ 8) (hdg : decode cc pc = .ok (.invokestatic 71, 3)) (hf : cells ≤ R.cells ∧ slots ≤ R.slots) (kk : ∀ H1 locs1, Wd E ad ixC x' H1 → va_S A s.heap H1 locs1 → W p l e R s m args below meth c H1 locs1 cells slots Q (F0 m (pc + 3) ls (rest))) : W p l e R s m args below meth c H locs cells slots Q (F0 m pc ls (.long v1 :: .ref (ad v0) :: rest)) :=
  rcS (n := 2) C0 (cc_AR_fillJ hap ho_v0 hc) hP hS gw_code_AR_fillJ gw_m_OU_71 gw_static_AR_fillJ gw_ini_AR rfl rfl (by decide +kernel) rfl hR hls rfl hroom hdg hf (fun H1 locs1 a _ _ b => kk H1 locs1 a b)
abbrev rm_OU_weddingADay : Room := { frames := 1, cells := 0, slots := 0, locals := 26 }
theorem dd_OU_weddingADay_0 : decode bb_OU_weddingADay 0 = .ok (.aload_n 0, 1) := by decide +kernel
theorem dd_OU_weddingADay_1 : decode bb_OU_weddingADay 1 = .ok (.getfield 28, 3) := by decide +kernel
theorem dd_OU_weddingADay_4 : decode bb_OU_weddingADay 4 = .ok (.lconst 0, 1) := by decide +kernel
theorem dd_OU_weddingADay_5 : decode bb_OU_weddingADay 5 = .ok (.invokestatic 71, 3) := by decide +kernel
theorem dd_OU_weddingADay_8 : decode bb_OU_weddingADay 8 = .ok (.iconst 0, 1) := by decide +kernel
theorem dd_OU_weddingADay_9 : decode bb_OU_weddingADay 9 = .ok (.istore_n 2, 1) := by decide +kernel
theorem dd_OU_weddingADay_10 : decode bb_OU_weddingADay 10 = .ok (.iload_n 2, 1) := by decide +kernel
theorem dd_OU_weddingADay_11 : decode bb_OU_weddingADay 11 = .ok (.bipush 100, 2) := by decide +kernel
theorem dd_OU_weddingADay_13 : decode bb_OU_weddingADay 13 = .ok (.if_icmp .ge 78, 3) := by decide +kernel
theorem dd_OU_weddingADay_16 : decode bb_OU_weddingADay 16 = .ok (.aload_n 0, 1) := by decide +kernel
theorem dd_OU_weddingADay_17 : decode bb_OU_weddingADay 17 = .ok (.getfield 15, 3) := by decide +kernel
theorem dd_OU_weddingADay_20 : decode bb_OU_weddingADay 20 = .ok (.iload_n 2, 1) := by decide +kernel
theorem dd_OU_weddingADay_21 : decode bb_OU_weddingADay 21 = .ok (.iaload, 1) := by decide +kernel
theorem dd_OU_weddingADay_22 : decode bb_OU_weddingADay 22 = .ok (.istore_n 3, 1) := by decide +kernel
theorem dd_OU_weddingADay_23 : decode bb_OU_weddingADay 23 = .ok (.aload_n 0, 1) := by decide +kernel
theorem dd_OU_weddingADay_24 : decode bb_OU_weddingADay 24 = .ok (.getfield 24, 3) := by decide +kernel
theorem dd_OU_weddingADay_27 : decode bb_OU_weddingADay 27 = .ok (.iload_n 2, 1) := by decide +kernel
theorem dd_OU_weddingADay_28 : decode bb_OU_weddingADay 28 = .ok (.laload, 1) := by decide +kernel
theorem dd_OU_weddingADay_29 : decode bb_OU_weddingADay 29 = .ok (.lconst 0, 1) := by decide +kernel
theorem dd_OU_weddingADay_30 : decode bb_OU_weddingADay 30 = .ok (.lcmp, 1) := by decide +kernel
theorem dd_OU_weddingADay_31 : decode bb_OU_weddingADay 31 = .ok (.ifCond .eq 54, 3) := by decide +kernel
theorem dd_OU_weddingADay_34 : decode bb_OU_weddingADay 34 = .ok (.iload_n 3, 1) := by decide +kernel
theorem dd_OU_weddingADay_35 : decode bb_OU_weddingADay 35 = .ok (.iconst 0, 1) := by decide +kernel
theorem dd_OU_weddingADay_36 : decode bb_OU_weddingADay 36 = .ok (.bipush 99, 2) := by decide +kernel
theorem dd_OU_weddingADay_38 : decode bb_OU_weddingADay 38 = .ok (.invokestatic 41, 3) := by decide +kernel
theorem dd_OU_weddingADay_41 : decode bb_OU_weddingADay 41 = .ok (.ifCond .eq 44, 3) := by decide +kernel
theorem dd_OU_weddingADay_44 : decode bb_OU_weddingADay 44 = .ok (.aload_n 0, 1) := by decide +kernel
theorem dd_OU_weddingADay_45 : decode bb_OU_weddingADay 45 = .ok (.getfield 28, 3) := by decide +kernel
theorem dd_OU_weddingADay_48 : decode bb_OU_weddingADay 48 = .ok (.iload_n 3, 1) := by decide +kernel
theorem dd_OU_weddingADay_49 : decode bb_OU_weddingADay 49 = .ok (.dup2, 1) := by decide +kernel
theorem dd_OU_weddingADay_50 : decode bb_OU_weddingADay 50 = .ok (.laload, 1) := by decide +kernel
theorem dd_OU_weddingADay_51 : decode bb_OU_weddingADay 51 = .ok (.aload_n 0, 1) := by decide +kernel
theorem dd_OU_weddingADay_52 : decode bb_OU_weddingADay 52 = .ok (.getfield 24, 3) := by decide +kernel
theorem dd_OU_weddingADay_55 : decode bb_OU_weddingADay 55 = .ok (.iload_n 2, 1) := by decide +kernel
theorem dd_OU_weddingADay_56 : decode bb_OU_weddingADay 56 = .ok (.laload, 1) := by decide +kernel
theorem dd_OU_weddingADay_57 : decode bb_OU_weddingADay 57 = .ok (.bipush 10, 2) := by decide +kernel
theorem dd_OU_weddingADay_59 : decode bb_OU_weddingADay 59 = .ok (.iload_n 1, 1) := by decide +kernel
theorem dd_OU_weddingADay_60 : decode bb_OU_weddingADay 60 = .ok (.isub, 1) := by decide +kernel
theorem dd_OU_weddingADay_61 : decode bb_OU_weddingADay 61 = .ok (.i2l, 1) := by decide +kernel
theorem dd_OU_weddingADay_62 : decode bb_OU_weddingADay 62 = .ok (.lmul, 1) := by decide +kernel
theorem dd_OU_weddingADay_63 : decode bb_OU_weddingADay 63 = .ok (.ladd, 1) := by decide +kernel
theorem dd_OU_weddingADay_64 : decode bb_OU_weddingADay 64 = .ok (.lastore, 1) := by decide +kernel
theorem dd_OU_weddingADay_65 : decode bb_OU_weddingADay 65 = .ok (.aload_n 0, 1) := by decide +kernel
theorem dd_OU_weddingADay_66 : decode bb_OU_weddingADay 66 = .ok (.getfield 28, 3) := by decide +kernel
theorem dd_OU_weddingADay_69 : decode bb_OU_weddingADay 69 = .ok (.iload_n 3, 1) := by decide +kernel
theorem dd_OU_weddingADay_70 : decode bb_OU_weddingADay 70 = .ok (.iconst 2, 1) := by decide +kernel
theorem dd_OU_weddingADay_71 : decode bb_OU_weddingADay 71 = .ok (.idiv, 1) := by decide +kernel
theorem dd_OU_weddingADay_72 : decode bb_OU_weddingADay 72 = .ok (.dup2, 1) := by decide +kernel
theorem dd_OU_weddingADay_73 : decode bb_OU_weddingADay 73 = .ok (.laload, 1) := by decide +kernel
theorem dd_OU_weddingADay_74 : decode bb_OU_weddingADay 74 = .ok (.aload_n 0, 1) := by decide +kernel
theorem dd_OU_weddingADay_75 : decode bb_OU_weddingADay 75 = .ok (.getfield 24, 3) := by decide +kernel
theorem dd_OU_weddingADay_78 : decode bb_OU_weddingADay 78 = .ok (.iload_n 2, 1) := by decide +kernel
theorem dd_OU_weddingADay_79 : decode bb_OU_weddingADay 79 = .ok (.laload, 1) := by decide +kernel
theorem dd_OU_weddingADay_80 : decode bb_OU_weddingADay 80 = .ok (.iload_n 1, 1) := by decide +kernel
theorem dd_OU_weddingADay_81 : decode bb_OU_weddingADay 81 = .ok (.i2l, 1) := by decide +kernel
theorem dd_OU_weddingADay_82 : decode bb_OU_weddingADay 82 = .ok (.lmul, 1) := by decide +kernel
theorem dd_OU_weddingADay_83 : decode bb_OU_weddingADay 83 = .ok (.ladd, 1) := by decide +kernel
theorem dd_OU_weddingADay_84 : decode bb_OU_weddingADay 84 = .ok (.lastore, 1) := by decide +kernel
theorem dd_OU_weddingADay_85 : decode bb_OU_weddingADay 85 = .ok (.iinc 2 1, 3) := by decide +kernel
theorem dd_OU_weddingADay_88 : decode bb_OU_weddingADay 88 = .ok (.goto (-78), 3) := by decide +kernel
theorem dd_OU_weddingADay_91 : decode bb_OU_weddingADay 91 = .ok (.aload_n 0, 1) := by decide +kernel
theorem dd_OU_weddingADay_92 : decode bb_OU_weddingADay 92 = .ok (.getfield 28, 3) := by decide +kernel
theorem dd_OU_weddingADay_95 : decode bb_OU_weddingADay 95 = .ok (.iconst 0, 1) := by decide +kernel
theorem dd_OU_weddingADay_96 : decode bb_OU_weddingADay 96 = .ok (.aload_n 0, 1) := by decide +kernel
theorem dd_OU_weddingADay_97 : decode bb_OU_weddingADay 97 = .ok (.getfield 24, 3) := by decide +kernel
theorem dd_OU_weddingADay_100 : decode bb_OU_weddingADay 100 = .ok (.iconst 0, 1) := by decide +kernel
theorem dd_OU_weddingADay_101 : decode bb_OU_weddingADay 101 = .ok (.bipush 100, 2) := by decide +kernel
theorem dd_OU_weddingADay_103 : decode bb_OU_weddingADay 103 = .ok (.invokestatic 65, 3) := by decide +kernel
theorem dd_OU_weddingADay_106 : decode bb_OU_weddingADay 106 = .ok (.return_, 1) := by decide +kernel
def ff_OU_weddingADay_91  (x : St) (v0 : Nat) : Option (Unit × St) := (if spb 0 100 (ln (rf v0 5)) = true then (if spb 0 100 (ln (rf v0 4)) = true then st (cpl x (rf v0 5) (ix 0) (rf v0 4) (ix 0) (ix 100)) (fun x_7 => some ((), x_7)) else none) else none)
def ff_OU_weddingADay_10  : Nat → St → Nat → Int32 → Int32 → Option (Unit × St)
  | 0, _, _, _, _ => none
  | n + 1, x, v0, v1, v2 => (if 100 ≤ v2 then ff_OU_weddingADay_91 x v0 else (if ixb v2 (ln (rf v0 1)) = true then (if ixb v2 (ln (rf v0 4)) = true then (if (lg_cmp (gl x (rf v0 4) (ix v2)) 0) = 0 then ff_OU_weddingADay_10 n x v0 v1 (v2 + 1) else bnd (ff_GG_isWithin x (gi x (rf v0 1) (ix v2)) 0 99) (fun r_11 x_12 => (if r_11 = 0 then ff_OU_weddingADay_10 n x_12 v0 v1 (v2 + 1) else (if ixb (gi x (rf v0 1) (ix v2)) (ln (rf v0 5)) = true then (if ixb v2 (ln (rf v0 4)) = true then (if ixb (gi x (rf v0 1) (ix v2)) (ln (rf v0 5)) = true then st (sl x_12 (rf v0 5) (ix (gi x (rf v0 1) (ix v2))) ((gl x_12 (rf v0 5) (ix (gi x (rf v0 1) (ix v2)))) + ((gl x_12 (rf v0 4) (ix v2)) * ((10 - v1).toInt64)))) (fun x_18 => (if ixb ((gi x (rf v0 1) (ix v2)) / 2) (ln (rf v0 5)) = true then (if ixb v2 (ln (rf v0 4)) = true then (if ixb ((gi x (rf v0 1) (ix v2)) / 2) (ln (rf v0 5)) = true then st (sl x_18 (rf v0 5) (ix ((gi x (rf v0 1) (ix v2)) / 2)) ((gl x_18 (rf v0 5) (ix ((gi x (rf v0 1) (ix v2)) / 2))) + ((gl x_18 (rf v0 4) (ix v2)) * (v1.toInt64)))) (fun x_22 => ff_OU_weddingADay_10 n x_22 v0 v1 (v2 + 1)) else none) else none) else none)) else none) else none) else none)))) else none) else none))
def ff_OU_weddingADay  (x : St) (v0 : Nat) (v1 : Int32) : Option (Unit × St) := bnd (ff_AR_fillJ x (rf v0 5) 0) (fun _ x_2 => ff_OU_weddingADay_10 FU x_2 v0 v1 0)
set_option maxHeartbeats 4000000 in
set_option maxRecDepth 100000 in
theorem ww_OU_weddingADay_91 {p : Program} {l : Launch} {e : Env} {s : State} {m : MethodId} {args : Array Value} {below : List Frame} {meth : Method} {c : Code} {E : Ev} {A : Nat → Prop} {ad : Nat → Nat} {r : Unit} {x' : St} (C0 : Cx E A ROU bb_OU_weddingADay 4 (none) p s m args meth c) (hap : Ap ad ixC A)  {x : St} {v0 : Nat} (ho_v0 : isO ixC v0 2) (hf : ff_OU_weddingADay_91 x v0 = some (r, x')) {H : Heap} {locs : List Loc} {ls : Array Slot} (hP : Wd E ad ixC x H) (hS : va_S A s.heap H locs) (hl : lv_has ls 4 [(0, .ref (ad v0))]) : W p l e rm_OU_weddingADay s m args below meth c H locs 0 0 (MQ below (QX E ad ixC A (none) x') args s 0 0 A) (F0 m 91 ls []) := by
  obtain ⟨hx, hb, hml, hr, hown, hts, hlk, hK⟩ := id C0
  have hf : (if spb 0 100 (ln (rf v0 5)) = true then (if spb 0 100 (ln (rf v0 4)) = true then st (cpl x (rf v0 5) (ix 0) (rf v0 4) (ix 0) (ix 100)) (fun x_7 => some ((), x_7)) else none) else none) = some (r, x') := hf
  refine lv_aload_n hx hb dd_OU_weddingADay_91 rfl (lv_at hl 0 rfl) ?_
  refine gf_OU_28 C0 hP ho_v0 dd_OU_weddingADay_92 ?_
  refine lv_iconst (v := 0) hx hb dd_OU_weddingADay_95 (by decide) ?_
  refine lv_aload_n hx hb dd_OU_weddingADay_96 rfl (lv_at hl 0 rfl) ?_
  refine gf_OU_24 C0 hP ho_v0 dd_OU_weddingADay_97 ?_
  refine lv_iconst (v := 0) hx hb dd_OU_weddingADay_100 (by decide) ?_
  refine lv_bipush (v := 100) hx hb dd_OU_weddingADay_101 (by decide) ?_
  obtain ⟨h_5, hf⟩ := of_ifb hf
  obtain ⟨h_6, hf⟩ := of_ifb hf
  obtain ⟨x_7, hx_7, hf⟩ := of_st hf
  refine cpL C0 hap hP hS (tp_2_5 ho_v0) (tp_2_4 ho_v0) h_5 h_6 hx_7 hl.1 gw_m_OU_65 (Nat.le_of_ble_eq_true rfl) ⟨Nat.le_of_ble_eq_true rfl, Nat.le_of_ble_eq_true rfl⟩ dd_OU_weddingADay_103 (fun H locs hP hS => ?_)
  exact rrV C0 hP hS dd_OU_weddingADay_106 hf
set_option maxHeartbeats 4000000 in
set_option maxRecDepth 100000 in
theorem ww_OU_weddingADay_10 {p : Program} {l : Launch} {e : Env} {s : State} {m : MethodId} {args : Array Value} {below : List Frame} {meth : Method} {c : Code} {E : Ev} {A : Nat → Prop} {ad : Nat → Nat} {r : Unit} {x' : St} (C0 : Cx E A ROU bb_OU_weddingADay 4 (none) p s m args meth c) (hap : Ap ad ixC A)  : ∀ (n : Nat), ∀ (x : St) (v0 : Nat) (v1 : Int32) (v2 : Int32), (isO ixC v0 2) → ff_OU_weddingADay_10 n x v0 v1 v2 = some (r, x') → ∀ (H : Heap) (locs : List Loc) (ls : Array Slot), Wd E ad ixC x H → va_S A s.heap H locs → lv_has ls 4 [(0, .ref (ad v0)), (1, .int v1), (2, .int v2)] → W p l e rm_OU_weddingADay s m args below meth c H locs 0 0 (MQ below (QX E ad ixC A (none) x') args s 0 0 A) (F0 m 10 ls []) := by
  obtain ⟨hx, hb, hml, hr, hown, hts, hlk, hK⟩ := id C0
  intro n
  induction n with
  | zero => intro x v0 v1 v2 ho_v0 hf; exact of_no hf
  | succ n ih =>
    intro x v0 v1 v2 ho_v0 hf H locs ls hP hS hl
    have hf : (if 100 ≤ v2 then ff_OU_weddingADay_91 x v0 else (if ixb v2 (ln (rf v0 1)) = true then (if ixb v2 (ln (rf v0 4)) = true then (if (lg_cmp (gl x (rf v0 4) (ix v2)) 0) = 0 then ff_OU_weddingADay_10 n x v0 v1 (v2 + 1) else bnd (ff_GG_isWithin x (gi x (rf v0 1) (ix v2)) 0 99) (fun r_11 x_12 => (if r_11 = 0 then ff_OU_weddingADay_10 n x_12 v0 v1 (v2 + 1) else (if ixb (gi x (rf v0 1) (ix v2)) (ln (rf v0 5)) = true then (if ixb v2 (ln (rf v0 4)) = true then (if ixb (gi x (rf v0 1) (ix v2)) (ln (rf v0 5)) = true then st (sl x_12 (rf v0 5) (ix (gi x (rf v0 1) (ix v2))) ((gl x_12 (rf v0 5) (ix (gi x (rf v0 1) (ix v2)))) + ((gl x_12 (rf v0 4) (ix v2)) * ((10 - v1).toInt64)))) (fun x_18 => (if ixb ((gi x (rf v0 1) (ix v2)) / 2) (ln (rf v0 5)) = true then (if ixb v2 (ln (rf v0 4)) = true then (if ixb ((gi x (rf v0 1) (ix v2)) / 2) (ln (rf v0 5)) = true then st (sl x_18 (rf v0 5) (ix ((gi x (rf v0 1) (ix v2)) / 2)) ((gl x_18 (rf v0 5) (ix ((gi x (rf v0 1) (ix v2)) / 2))) + ((gl x_18 (rf v0 4) (ix v2)) * (v1.toInt64)))) (fun x_22 => ff_OU_weddingADay_10 n x_22 v0 v1 (v2 + 1)) else none) else none) else none)) else none) else none) else none)))) else none) else none)) = some (r, x') := hf
    refine lv_iload_n hx hb dd_OU_weddingADay_10 rfl (lv_at hl 2 rfl) ?_
    refine lv_bipush (v := 100) hx hb dd_OU_weddingADay_11 (by decide) ?_
    refine lv_icmp_ge (tgt := 91) hx hb dd_OU_weddingADay_13 (by decide) (fun h_4 => ?_) (fun h_4 => ?_)
    · have hf := (if_pos h_4).symm.trans hf
      exact ww_OU_weddingADay_91 C0 hap  ho_v0 hf hP hS (lv_sub hl [0] rfl)
    · have hf := (if_neg h_4).symm.trans hf
      refine lv_aload_n hx hb dd_OU_weddingADay_16 rfl (lv_at hl 0 rfl) ?_
      refine gf_OU_15 C0 hP ho_v0 dd_OU_weddingADay_17 ?_
      refine lv_iload_n hx hb dd_OU_weddingADay_20 rfl (lv_at hl 2 rfl) ?_
      obtain ⟨h_8, hf⟩ := of_ifb hf
      refine raI C0 hP (tp_2_1 ho_v0) h_8 dd_OU_weddingADay_21 ?_
      refine lv_istore_n (lv' := [(3, .int (gi x (rf v0 1) (ix v2))), (0, .ref (ad v0)), (1, .int v1), (2, .int v2)]) hx hb dd_OU_weddingADay_22 rfl hl (by decide) rfl (fun ls hl => ?_)
      refine lv_aload_n hx hb dd_OU_weddingADay_23 rfl (lv_at hl 1 rfl) ?_
      refine gf_OU_24 C0 hP ho_v0 dd_OU_weddingADay_24 ?_
      refine lv_iload_n hx hb dd_OU_weddingADay_27 rfl (lv_at hl 3 rfl) ?_
      obtain ⟨h_9, hf⟩ := of_ifb hf
      refine raL C0 hP (tp_2_4 ho_v0) h_9 dd_OU_weddingADay_28 ?_
      refine lv_lconst (v := 0) hx hb dd_OU_weddingADay_29 (by decide) ?_
      refine W.lcmp hx hb dd_OU_weddingADay_30 ?_
      refine lv_if_eq (tgt := 85) hx hb dd_OU_weddingADay_31 (by decide) (fun h_10 => ?_) (fun h_10 => ?_)
      · have hf := (if_pos h_10).symm.trans hf
        refine lv_iinc (v := v2 + 1) (lv' := [(2, .int (v2 + 1)), (3, .int (gi x (rf v0 1) (ix v2))), (0, .ref (ad v0)), (1, .int v1)]) hx hb dd_OU_weddingADay_85 hl (k := 3) rfl rfl (by decide) rfl (fun ls hl => ?_)
        refine lv_goto (tgt := 10) hx hb dd_OU_weddingADay_88 (by decide) ?_
        exact ih x v0 v1 (v2 + 1) ho_v0 hf _ _ _ hP hS (lv_sub hl [2, 3, 0] rfl)
      · have hf := (if_neg h_10).symm.trans hf
        refine lv_iload_n hx hb dd_OU_weddingADay_34 rfl (lv_at hl 0 rfl) ?_
        refine lv_iconst (v := 0) hx hb dd_OU_weddingADay_35 (by decide) ?_
        refine lv_bipush (v := 99) hx hb dd_OU_weddingADay_36 (by decide) ?_
        obtain ⟨r_11, x_12, c_13, hf⟩ := of_bnd hf
        refine cl_OU_41 C0 hap  c_13 hP hS ⟨Nat.le_of_ble_eq_true rfl, Nat.le_of_ble_eq_true rfl⟩ hl.1 (Nat.le_of_ble_eq_true rfl) dd_OU_weddingADay_38 ⟨Nat.le_refl _, Nat.le_refl _⟩ (fun H locs hP hS => ?_)
        refine lv_if_eq (tgt := 85) hx hb dd_OU_weddingADay_41 (by decide) (fun h_14 => ?_) (fun h_14 => ?_)
        · have hf := (if_pos h_14).symm.trans hf
          refine lv_iinc (v := v2 + 1) (lv' := [(2, .int (v2 + 1)), (3, .int (gi x (rf v0 1) (ix v2))), (0, .ref (ad v0)), (1, .int v1)]) hx hb dd_OU_weddingADay_85 hl (k := 3) rfl rfl (by decide) rfl (fun ls hl => ?_)
          refine lv_goto (tgt := 10) hx hb dd_OU_weddingADay_88 (by decide) ?_
          exact ih x_12 v0 v1 (v2 + 1) ho_v0 hf _ _ _ hP hS (lv_sub hl [2, 3, 0] rfl)
        · have hf := (if_neg h_14).symm.trans hf
          refine lv_aload_n hx hb dd_OU_weddingADay_44 rfl (lv_at hl 1 rfl) ?_
          refine gf_OU_28 C0 hP ho_v0 dd_OU_weddingADay_45 ?_
          refine lv_iload_n hx hb dd_OU_weddingADay_48 rfl (lv_at hl 0 rfl) ?_
          refine lv_dup2_11 hx hb dd_OU_weddingADay_49 rfl rfl ?_
          obtain ⟨h_15, hf⟩ := of_ifb hf
          refine raL C0 hP (tp_2_5 ho_v0) h_15 dd_OU_weddingADay_50 ?_
          refine lv_aload_n hx hb dd_OU_weddingADay_51 rfl (lv_at hl 1 rfl) ?_
          refine gf_OU_24 C0 hP ho_v0 dd_OU_weddingADay_52 ?_
          refine lv_iload_n hx hb dd_OU_weddingADay_55 rfl (lv_at hl 3 rfl) ?_
          obtain ⟨h_16, hf⟩ := of_ifb hf
          refine raL C0 hP (tp_2_4 ho_v0) h_16 dd_OU_weddingADay_56 ?_
          refine lv_bipush (v := 10) hx hb dd_OU_weddingADay_57 (by decide) ?_
          refine lv_iload_n hx hb dd_OU_weddingADay_59 rfl (lv_at hl 2 rfl) ?_
          refine lv_isub hx hb dd_OU_weddingADay_60 ?_
          refine lv_i2l hx hb dd_OU_weddingADay_61 rfl ?_
          refine lv_lmul hx hb dd_OU_weddingADay_62 ?_
          refine lv_ladd hx hb dd_OU_weddingADay_63 ?_
          obtain ⟨h_17, hf⟩ := of_ifb hf
          obtain ⟨x_18, hx_18, hf⟩ := of_st hf
          refine sL C0 hap hP hS (tp_2_5 ho_v0) h_17 hx_18 dd_OU_weddingADay_64 (fun H locs hP hS => ?_)
          refine lv_aload_n hx hb dd_OU_weddingADay_65 rfl (lv_at hl 1 rfl) ?_
          refine gf_OU_28 C0 hP ho_v0 dd_OU_weddingADay_66 ?_
          refine lv_iload_n hx hb dd_OU_weddingADay_69 rfl (lv_at hl 0 rfl) ?_
          refine lv_iconst (v := 2) hx hb dd_OU_weddingADay_70 (by decide) ?_
          refine lv_idiv hx hb dd_OU_weddingADay_71 (by decide) ?_
          refine lv_dup2_11 hx hb dd_OU_weddingADay_72 rfl rfl ?_
          obtain ⟨h_19, hf⟩ := of_ifb hf
          refine raL C0 hP (tp_2_5 ho_v0) h_19 dd_OU_weddingADay_73 ?_
          refine lv_aload_n hx hb dd_OU_weddingADay_74 rfl (lv_at hl 1 rfl) ?_
          refine gf_OU_24 C0 hP ho_v0 dd_OU_weddingADay_75 ?_
          refine lv_iload_n hx hb dd_OU_weddingADay_78 rfl (lv_at hl 3 rfl) ?_
          obtain ⟨h_20, hf⟩ := of_ifb hf
          refine raL C0 hP (tp_2_4 ho_v0) h_20 dd_OU_weddingADay_79 ?_
          refine lv_iload_n hx hb dd_OU_weddingADay_80 rfl (lv_at hl 2 rfl) ?_
          refine lv_i2l hx hb dd_OU_weddingADay_81 rfl ?_
          refine lv_lmul hx hb dd_OU_weddingADay_82 ?_
          refine lv_ladd hx hb dd_OU_weddingADay_83 ?_
          obtain ⟨h_21, hf⟩ := of_ifb hf
          obtain ⟨x_22, hx_22, hf⟩ := of_st hf
          refine sL C0 hap hP hS (tp_2_5 ho_v0) h_21 hx_22 dd_OU_weddingADay_84 (fun H locs hP hS => ?_)
          refine lv_iinc (v := v2 + 1) (lv' := [(2, .int (v2 + 1)), (3, .int (gi x (rf v0 1) (ix v2))), (0, .ref (ad v0)), (1, .int v1)]) hx hb dd_OU_weddingADay_85 hl (k := 3) rfl rfl (by decide) rfl (fun ls hl => ?_)
          refine lv_goto (tgt := 10) hx hb dd_OU_weddingADay_88 (by decide) ?_
          exact ih x_22 v0 v1 (v2 + 1) ho_v0 hf _ _ _ hP hS (lv_sub hl [2, 3, 0] rfl)
set_option maxHeartbeats 4000000 in
set_option maxRecDepth 100000 in
theorem ww_OU_weddingADay {p : Program} {l : Launch} {e : Env} {s : State} {m : MethodId} {args : Array Value} {below : List Frame} {meth : Method} {c : Code} {E : Ev} {A : Nat → Prop} {ad : Nat → Nat} {r : Unit} {x' : St} (C0 : Cx E A ROU bb_OU_weddingADay 4 (none) p s m args meth c) (hap : Ap ad ixC A)  {x : St} {v0 : Nat} {v1 : Int32} (ho_v0 : isO ixC v0 2) (hf : ff_OU_weddingADay x v0 v1 = some (r, x')) {H : Heap} {locs : List Loc} {ls : Array Slot} (hP : Wd E ad ixC x H) (hS : va_S A s.heap H locs) (hl : lv_has ls 4 [(0, .ref (ad v0)), (1, .int v1)]) : W p l e rm_OU_weddingADay s m args below meth c H locs 0 0 (MQ below (QX E ad ixC A (none) x') args s 0 0 A) (F0 m 0 ls []) := by
  obtain ⟨hx, hb, hml, hr, hown, hts, hlk, hK⟩ := id C0
  have hf : bnd (ff_AR_fillJ x (rf v0 5) 0) (fun _ x_2 => ff_OU_weddingADay_10 FU x_2 v0 v1 0) = some (r, x') := hf
  refine lv_aload_n hx hb dd_OU_weddingADay_0 rfl (lv_at hl 0 rfl) ?_
  refine gf_OU_28 C0 hP ho_v0 dd_OU_weddingADay_1 ?_
  refine lv_lconst (v := 0) hx hb dd_OU_weddingADay_4 (by decide) ?_
  obtain ⟨_, x_2, c_3, hf⟩ := of_bnd hf
  refine cl_OU_71 C0 hap (tp_2_5 ho_v0) c_3 hP hS ⟨Nat.le_of_ble_eq_true rfl, Nat.le_of_ble_eq_true rfl⟩ hl.1 (Nat.le_of_ble_eq_true rfl) dd_OU_weddingADay_5 ⟨Nat.le_refl _, Nat.le_refl _⟩ (fun H locs hP hS => ?_)
  refine lv_iconst (v := 0) hx hb dd_OU_weddingADay_8 (by decide) ?_
  refine lv_istore_n (lv' := [(2, .int 0), (0, .ref (ad v0)), (1, .int v1)]) hx hb dd_OU_weddingADay_9 rfl hl (by decide) rfl (fun ls hl => ?_)
  exact ww_OU_weddingADay_10 C0 hap  FU x_2 v0 v1 0 ho_v0 hf _ _ _ hP hS (lv_sub hl [1, 2, 0] rfl)
theorem cc_OU_weddingADay {l : Launch} {E : Ev} {A : Nat → Prop} {ad : Nat → Nat} (hap : Ap ad ixC A) {x x' : St} {v0 : Nat} {v1 : Int32} {r : Unit} (ho_v0 : isO ixC v0 2) (hf : ff_OU_weddingADay x v0 v1 = some (r, x')) : Met l yy_OU_weddingADay (Cond.code yy_OU_weddingADay bb_OU_weddingADay 4 (none) :: gtb) rm_OU_weddingADay (va_Pc [.ref (ad v0), .int v1] (PB E A ad ixC x)) (QX E ad ixC A (none) x') 0 0 A := by
  exact enter (by decide) (Nat.le_of_ble_eq_true rfl) (fun p e s m below meth c ls C0 hP hS hl => ww_OU_weddingADay C0 hap ho_v0 hf hP hS hl)
theorem cl_OU_74 {p : Program} {l : Launch} {e : Env} {R : Room} {s : State} {m : MethodId} {args : Array Value} {below : List Frame} {meth : Method} {c : Code} {H : Heap} {locs : List Loc} {cells slots : Nat} {Q : State → Prop} {cc : ByteArray} {pc : Nat} {ls : Array Slot} {rest : List Value} {E : Ev} {A : Nat → Prop} {ad : Nat → Nat} {nL : Nat} {rt : Option FieldType} (C0 : Cx E A ROU cc nL rt p s m args meth c) (hap : Ap ad ixC A) {x x' : St} {v0 : Nat} {v1 : Int32} {r : Unit} (ho_v0 : isO ixC v0 2) (hc : ff_OU_weddingADay x v0 v1 = some (r, x')) (hP : Wd E ad ixC x H) (hS : va_S A s.heap H locs) (hR : rm_OU_weddingADay.frames + 1 ≤ R.frames ∧ 8 + (4 + 11) + rm_OU_weddingADay.locals ≤ R.locals) (hls : ls.size = nL) (hroom : (rest.map fun v => v.category).sum ≤ 8) (hdg : decode cc pc = .ok (.invokevirtual 74, 3)) (hf : cells ≤ R.cells ∧ slots ≤ R.slots) (kk : ∀ H1 locs1, Wd E ad ixC x' H1 → va_S A s.heap H1 locs1 → W p l e R s m args below meth c H1 locs1 cells slots Q (F0 m (pc + 3) ls (rest))) : W p l e R s m args below meth c H locs cells slots Q (F0 m pc ls (.int v1 :: .ref (ad v0) :: rest)) :=
  rcV (n := 1) C0 (cc_OU_weddingADay hap ho_v0 hc) hP hS ho_v0 vcl_2 (by decide) gw_code_OU_weddingADay gw_m_OU_74 gw_inst_OU_weddingADay gw_sel_OU_weddingADay gw_ini_OU rfl rfl (by decide +kernel) rfl hR hls rfl hroom hdg hf (fun H1 locs1 a _ _ b => kk H1 locs1 a b)
abbrev rm_OU_chancesToHold : Room := { frames := 4, cells := 0, slots := 0, locals := 92 }
theorem dd_OU_chancesToHold_0 : decode bb_OU_chancesToHold 0 = .ok (.aload_n 1, 1) := by decide +kernel
theorem dd_OU_chancesToHold_1 : decode bb_OU_chancesToHold 1 = .ok (.iload_n 2, 1) := by decide +kernel
theorem dd_OU_chancesToHold_2 : decode bb_OU_chancesToHold 2 = .ok (.aload_n 1, 1) := by decide +kernel
theorem dd_OU_chancesToHold_3 : decode bb_OU_chancesToHold 3 = .ok (.getfield 31, 3) := by decide +kernel
theorem dd_OU_chancesToHold_6 : decode bb_OU_chancesToHold 6 = .ok (.invokevirtual 37, 3) := by decide +kernel
theorem dd_OU_chancesToHold_9 : decode bb_OU_chancesToHold 9 = .ok (.istore 6, 2) := by decide +kernel
theorem dd_OU_chancesToHold_11 : decode bb_OU_chancesToHold 11 = .ok (.aload_n 0, 1) := by decide +kernel
theorem dd_OU_chancesToHold_12 : decode bb_OU_chancesToHold 12 = .ok (.getfield 24, 3) := by decide +kernel
theorem dd_OU_chancesToHold_15 : decode bb_OU_chancesToHold 15 = .ok (.lconst 0, 1) := by decide +kernel
theorem dd_OU_chancesToHold_16 : decode bb_OU_chancesToHold 16 = .ok (.invokestatic 71, 3) := by decide +kernel
theorem dd_OU_chancesToHold_19 : decode bb_OU_chancesToHold 19 = .ok (.iload 6, 2) := by decide +kernel
theorem dd_OU_chancesToHold_21 : decode bb_OU_chancesToHold 21 = .ok (.iconst 0, 1) := by decide +kernel
theorem dd_OU_chancesToHold_22 : decode bb_OU_chancesToHold 22 = .ok (.bipush 99, 2) := by decide +kernel
theorem dd_OU_chancesToHold_24 : decode bb_OU_chancesToHold 24 = .ok (.invokestatic 41, 3) := by decide +kernel
theorem dd_OU_chancesToHold_27 : decode bb_OU_chancesToHold 27 = .ok (.ifCond .eq 11, 3) := by decide +kernel
theorem dd_OU_chancesToHold_30 : decode bb_OU_chancesToHold 30 = .ok (.aload_n 0, 1) := by decide +kernel
theorem dd_OU_chancesToHold_31 : decode bb_OU_chancesToHold 31 = .ok (.getfield 24, 3) := by decide +kernel
theorem dd_OU_chancesToHold_34 : decode bb_OU_chancesToHold 34 = .ok (.iload 6, 2) := by decide +kernel
theorem dd_OU_chancesToHold_36 : decode bb_OU_chancesToHold 36 = .ok (.lconst 1, 1) := by decide +kernel
theorem dd_OU_chancesToHold_37 : decode bb_OU_chancesToHold 37 = .ok (.lastore, 1) := by decide +kernel
theorem dd_OU_chancesToHold_38 : decode bb_OU_chancesToHold 38 = .ok (.iconst 1, 1) := by decide +kernel
theorem dd_OU_chancesToHold_39 : decode bb_OU_chancesToHold 39 = .ok (.istore 7, 2) := by decide +kernel
theorem dd_OU_chancesToHold_41 : decode bb_OU_chancesToHold 41 = .ok (.iload 7, 2) := by decide +kernel
theorem dd_OU_chancesToHold_43 : decode bb_OU_chancesToHold 43 = .ok (.iload 4, 2) := by decide +kernel
theorem dd_OU_chancesToHold_45 : decode bb_OU_chancesToHold 45 = .ok (.if_icmp .gt 31, 3) := by decide +kernel
theorem dd_OU_chancesToHold_48 : decode bb_OU_chancesToHold 48 = .ok (.aload_n 1, 1) := by decide +kernel
theorem dd_OU_chancesToHold_49 : decode bb_OU_chancesToHold 49 = .ok (.aload_n 0, 1) := by decide +kernel
theorem dd_OU_chancesToHold_50 : decode bb_OU_chancesToHold 50 = .ok (.getfield 15, 3) := by decide +kernel
theorem dd_OU_chancesToHold_53 : decode bb_OU_chancesToHold 53 = .ok (.iload_n 2, 1) := by decide +kernel
theorem dd_OU_chancesToHold_54 : decode bb_OU_chancesToHold 54 = .ok (.aload_n 1, 1) := by decide +kernel
theorem dd_OU_chancesToHold_55 : decode bb_OU_chancesToHold 55 = .ok (.getfield 31, 3) := by decide +kernel
theorem dd_OU_chancesToHold_58 : decode bb_OU_chancesToHold 58 = .ok (.iload 7, 2) := by decide +kernel
theorem dd_OU_chancesToHold_60 : decode bb_OU_chancesToHold 60 = .ok (.iadd, 1) := by decide +kernel
theorem dd_OU_chancesToHold_61 : decode bb_OU_chancesToHold 61 = .ok (.invokevirtual 52, 3) := by decide +kernel
theorem dd_OU_chancesToHold_64 : decode bb_OU_chancesToHold 64 = .ok (.aload_n 0, 1) := by decide +kernel
theorem dd_OU_chancesToHold_65 : decode bb_OU_chancesToHold 65 = .ok (.iload 5, 2) := by decide +kernel
theorem dd_OU_chancesToHold_67 : decode bb_OU_chancesToHold 67 = .ok (.invokevirtual 74, 3) := by decide +kernel
theorem dd_OU_chancesToHold_70 : decode bb_OU_chancesToHold 70 = .ok (.iinc 7 1, 3) := by decide +kernel
theorem dd_OU_chancesToHold_73 : decode bb_OU_chancesToHold 73 = .ok (.goto (-32), 3) := by decide +kernel
theorem dd_OU_chancesToHold_76 : decode bb_OU_chancesToHold 76 = .ok (.lconst 0, 1) := by decide +kernel
theorem dd_OU_chancesToHold_77 : decode bb_OU_chancesToHold 77 = .ok (.lstore 7, 2) := by decide +kernel
theorem dd_OU_chancesToHold_79 : decode bb_OU_chancesToHold 79 = .ok (.iload_n 3, 1) := by decide +kernel
theorem dd_OU_chancesToHold_80 : decode bb_OU_chancesToHold 80 = .ok (.iconst 0, 1) := by decide +kernel
theorem dd_OU_chancesToHold_81 : decode bb_OU_chancesToHold 81 = .ok (.invokestatic 77, 3) := by decide +kernel
theorem dd_OU_chancesToHold_84 : decode bb_OU_chancesToHold 84 = .ok (.istore 9, 2) := by decide +kernel
theorem dd_OU_chancesToHold_86 : decode bb_OU_chancesToHold 86 = .ok (.iload 9, 2) := by decide +kernel
theorem dd_OU_chancesToHold_88 : decode bb_OU_chancesToHold 88 = .ok (.bipush 100, 2) := by decide +kernel
theorem dd_OU_chancesToHold_90 : decode bb_OU_chancesToHold 90 = .ok (.if_icmp .ge 21, 3) := by decide +kernel
theorem dd_OU_chancesToHold_93 : decode bb_OU_chancesToHold 93 = .ok (.lload 7, 2) := by decide +kernel
theorem dd_OU_chancesToHold_95 : decode bb_OU_chancesToHold 95 = .ok (.aload_n 0, 1) := by decide +kernel
theorem dd_OU_chancesToHold_96 : decode bb_OU_chancesToHold 96 = .ok (.getfield 24, 3) := by decide +kernel
theorem dd_OU_chancesToHold_99 : decode bb_OU_chancesToHold 99 = .ok (.iload 9, 2) := by decide +kernel
theorem dd_OU_chancesToHold_101 : decode bb_OU_chancesToHold 101 = .ok (.laload, 1) := by decide +kernel
theorem dd_OU_chancesToHold_102 : decode bb_OU_chancesToHold 102 = .ok (.ladd, 1) := by decide +kernel
theorem dd_OU_chancesToHold_103 : decode bb_OU_chancesToHold 103 = .ok (.lstore 7, 2) := by decide +kernel
theorem dd_OU_chancesToHold_105 : decode bb_OU_chancesToHold 105 = .ok (.iinc 9 1, 3) := by decide +kernel
theorem dd_OU_chancesToHold_108 : decode bb_OU_chancesToHold 108 = .ok (.goto (-22), 3) := by decide +kernel
theorem dd_OU_chancesToHold_111 : decode bb_OU_chancesToHold 111 = .ok (.lload 7, 2) := by decide +kernel
theorem dd_OU_chancesToHold_113 : decode bb_OU_chancesToHold 113 = .ok (.lreturn, 1) := by decide +kernel
def ff_OU_chancesToHold_86  : Nat → St → Nat → Int64 → Int32 → Option (Int64 × St)
  | 0, _, _, _, _ => none
  | n + 1, x, v0, v7, v9 => (if 100 ≤ v9 then some (v7, x) else (if ixb v9 (ln (rf v0 4)) = true then lj (v7 + (gl x (rf v0 4) (ix v9))) (fun u_14 => ff_OU_chancesToHold_86 n x v0 u_14 (v9 + 1)) else none))
def ff_OU_chancesToHold_76  (x : St) (v0 : Nat) (v3 : Int32) : Option (Int64 × St) := ff_OU_chancesToHold_86 FU x v0 0 (imax v3 0)
def ff_OU_chancesToHold_41  : Nat → St → Nat → Nat → Int32 → Int32 → Int32 → Int32 → Int32 → Option (Int64 × St)
  | 0, _, _, _, _, _, _, _, _ => none
  | n + 1, x, v0, v1, v2, v3, v4, v5, v7 => (if v4 < v7 then ff_OU_chancesToHold_76 x v0 v3 else bnd (ff_SH_fillNextGriefs x v1 (rf v0 1) v2 ((gi x v1 9) + v7)) (fun _ x_16 => bnd (ff_OU_weddingADay x_16 v0 v5) (fun _ x_19 => ff_OU_chancesToHold_41 n x_19 v0 v1 v2 v3 v4 v5 (v7 + 1))))
def ff_OU_chancesToHold  (x : St) (v0 : Nat) (v1 : Nat) (v2 : Int32) (v3 : Int32) (v4 : Int32) (v5 : Int32) : Option (Int64 × St) := bnd (ff_SH_griefOn x v1 v2 (gi x v1 9)) (fun r_1 x_2 => bnd (ff_AR_fillJ x_2 (rf v0 4) 0) (fun _ x_5 => bnd (ff_GG_isWithin x_5 r_1 0 99) (fun r_7 x_8 => (if r_7 = 0 then ff_OU_chancesToHold_41 FU x_8 v0 v1 v2 v3 v4 v5 1 else (if ixb r_1 (ln (rf v0 4)) = true then st (sl x_8 (rf v0 4) (ix r_1) 1) (fun x_22 => ff_OU_chancesToHold_41 FU x_22 v0 v1 v2 v3 v4 v5 1) else none)))))
set_option maxHeartbeats 4000000 in
set_option maxRecDepth 100000 in
theorem ww_OU_chancesToHold_86 {p : Program} {l : Launch} {e : Env} {s : State} {m : MethodId} {args : Array Value} {below : List Frame} {meth : Method} {c : Code} {E : Ev} {A : Nat → Prop} {ad : Nat → Nat} {r : Int64} {x' : St} (C0 : Cx E A ROU bb_OU_chancesToHold 10 (some .long) p s m args meth c) (hap : Ap ad ixC A)  : ∀ (n : Nat), ∀ (x : St) (v0 : Nat) (v7 : Int64) (v9 : Int32), (isO ixC v0 2) → ff_OU_chancesToHold_86 n x v0 v7 v9 = some (r, x') → ∀ (H : Heap) (locs : List Loc) (ls : Array Slot), Wd E ad ixC x H → va_S A s.heap H locs → lv_has ls 10 [(0, .ref (ad v0)), (7, .long v7), (9, .int v9)] → W p l e rm_OU_chancesToHold s m args below meth c H locs 0 0 (MQ below (QX E ad ixC A (some (.long r)) x') args s 0 0 A) (F0 m 86 ls []) := by
  obtain ⟨hx, hb, hml, hr, hown, hts, hlk, hK⟩ := id C0
  intro n
  induction n with
  | zero => intro x v0 v7 v9 ho_v0 hf; exact of_no hf
  | succ n ih =>
    intro x v0 v7 v9 ho_v0 hf H locs ls hP hS hl
    have hf : (if 100 ≤ v9 then some (v7, x) else (if ixb v9 (ln (rf v0 4)) = true then lj (v7 + (gl x (rf v0 4) (ix v9))) (fun u_14 => ff_OU_chancesToHold_86 n x v0 u_14 (v9 + 1)) else none)) = some (r, x') := hf
    refine lv_iload hx hb dd_OU_chancesToHold_86 (lv_at hl 2 rfl) ?_
    refine lv_bipush (v := 100) hx hb dd_OU_chancesToHold_88 (by decide) ?_
    refine lv_icmp_ge (tgt := 111) hx hb dd_OU_chancesToHold_90 (by decide) (fun h_12 => ?_) (fun h_12 => ?_)
    · have hf := (if_pos h_12).symm.trans hf
      refine lv_lload hx hb dd_OU_chancesToHold_111 (lv_at hl 1 rfl) ?_
      exact rrL C0 hP hS dd_OU_chancesToHold_113 hf
    · have hf := (if_neg h_12).symm.trans hf
      refine lv_lload hx hb dd_OU_chancesToHold_93 (lv_at hl 1 rfl) ?_
      refine lv_aload_n hx hb dd_OU_chancesToHold_95 rfl (lv_at hl 0 rfl) ?_
      refine gf_OU_24 C0 hP ho_v0 dd_OU_chancesToHold_96 ?_
      refine lv_iload hx hb dd_OU_chancesToHold_99 (lv_at hl 2 rfl) ?_
      obtain ⟨h_13, hf⟩ := of_ifb hf
      refine raL C0 hP (tp_2_4 ho_v0) h_13 dd_OU_chancesToHold_101 ?_
      refine lv_ladd hx hb dd_OU_chancesToHold_102 ?_
      obtain ⟨u_14, eu_14, hf⟩ := of_lj hf
      refine tpj eu_14 ?_
      refine lv_lstore (lv' := [(7, .long u_14), (0, .ref (ad v0)), (9, .int v9)]) hx hb dd_OU_chancesToHold_103 hl (by decide) rfl (fun ls hl => ?_)
      refine lv_iinc (v := v9 + 1) (lv' := [(9, .int (v9 + 1)), (7, .long u_14), (0, .ref (ad v0))]) hx hb dd_OU_chancesToHold_105 hl (k := 2) rfl rfl (by decide) rfl (fun ls hl => ?_)
      refine lv_goto (tgt := 86) hx hb dd_OU_chancesToHold_108 (by decide) ?_
      exact ih x v0 u_14 (v9 + 1) ho_v0 hf _ _ _ hP hS (lv_sub hl [2, 1, 0] rfl)
set_option maxHeartbeats 4000000 in
set_option maxRecDepth 100000 in
theorem ww_OU_chancesToHold_76 {p : Program} {l : Launch} {e : Env} {s : State} {m : MethodId} {args : Array Value} {below : List Frame} {meth : Method} {c : Code} {E : Ev} {A : Nat → Prop} {ad : Nat → Nat} {r : Int64} {x' : St} (C0 : Cx E A ROU bb_OU_chancesToHold 10 (some .long) p s m args meth c) (hap : Ap ad ixC A)  {x : St} {v0 : Nat} {v3 : Int32} (ho_v0 : isO ixC v0 2) (hf : ff_OU_chancesToHold_76 x v0 v3 = some (r, x')) {H : Heap} {locs : List Loc} {ls : Array Slot} (hP : Wd E ad ixC x H) (hS : va_S A s.heap H locs) (hl : lv_has ls 10 [(0, .ref (ad v0)), (3, .int v3)]) : W p l e rm_OU_chancesToHold s m args below meth c H locs 0 0 (MQ below (QX E ad ixC A (some (.long r)) x') args s 0 0 A) (F0 m 76 ls []) := by
  obtain ⟨hx, hb, hml, hr, hown, hts, hlk, hK⟩ := id C0
  have hf : ff_OU_chancesToHold_86 FU x v0 0 (imax v3 0) = some (r, x') := hf
  refine lv_lconst (v := 0) hx hb dd_OU_chancesToHold_76 (by decide) ?_
  refine lv_lstore (lv' := [(7, .long 0), (0, .ref (ad v0)), (3, .int v3)]) hx hb dd_OU_chancesToHold_77 hl (by decide) rfl (fun ls hl => ?_)
  refine lv_iload_n hx hb dd_OU_chancesToHold_79 rfl (lv_at hl 2 rfl) ?_
  refine lv_iconst (v := 0) hx hb dd_OU_chancesToHold_80 (by decide) ?_
  refine rmax C0 hl.1 gw_m_OU_77 (Nat.le_of_ble_eq_true rfl) ⟨Nat.le_of_ble_eq_true rfl, Nat.le_of_ble_eq_true rfl⟩ ⟨Nat.le_refl _, Nat.le_refl _⟩ dd_OU_chancesToHold_81 ?_
  refine lv_istore (lv' := [(9, .int (imax v3 0)), (7, .long 0), (0, .ref (ad v0)), (3, .int v3)]) hx hb dd_OU_chancesToHold_84 hl (by decide) rfl (fun ls hl => ?_)
  exact ww_OU_chancesToHold_86 C0 hap  FU x v0 0 (imax v3 0) ho_v0 hf _ _ _ hP hS (lv_sub hl [2, 1, 0] rfl)
set_option maxHeartbeats 4000000 in
set_option maxRecDepth 100000 in
theorem ww_OU_chancesToHold_41 {p : Program} {l : Launch} {e : Env} {s : State} {m : MethodId} {args : Array Value} {below : List Frame} {meth : Method} {c : Code} {E : Ev} {A : Nat → Prop} {ad : Nat → Nat} {r : Int64} {x' : St} (C0 : Cx E A ROU bb_OU_chancesToHold 10 (some .long) p s m args meth c) (hap : Ap ad ixC A)  : ∀ (n : Nat), ∀ (x : St) (v0 : Nat) (v1 : Nat) (v2 : Int32) (v3 : Int32) (v4 : Int32) (v5 : Int32) (v7 : Int32), (isO ixC v0 2) → (isO ixC v1 4) → ff_OU_chancesToHold_41 n x v0 v1 v2 v3 v4 v5 v7 = some (r, x') → ∀ (H : Heap) (locs : List Loc) (ls : Array Slot), Wd E ad ixC x H → va_S A s.heap H locs → lv_has ls 10 [(0, .ref (ad v0)), (1, .ref (ad v1)), (2, .int v2), (3, .int v3), (4, .int v4), (5, .int v5), (7, .int v7)] → W p l e rm_OU_chancesToHold s m args below meth c H locs 0 0 (MQ below (QX E ad ixC A (some (.long r)) x') args s 0 0 A) (F0 m 41 ls []) := by
  obtain ⟨hx, hb, hml, hr, hown, hts, hlk, hK⟩ := id C0
  intro n
  induction n with
  | zero => intro x v0 v1 v2 v3 v4 v5 v7 ho_v0 ho_v1 hf; exact of_no hf
  | succ n ih =>
    intro x v0 v1 v2 v3 v4 v5 v7 ho_v0 ho_v1 hf H locs ls hP hS hl
    have hf : (if v4 < v7 then ff_OU_chancesToHold_76 x v0 v3 else bnd (ff_SH_fillNextGriefs x v1 (rf v0 1) v2 ((gi x v1 9) + v7)) (fun _ x_16 => bnd (ff_OU_weddingADay x_16 v0 v5) (fun _ x_19 => ff_OU_chancesToHold_41 n x_19 v0 v1 v2 v3 v4 v5 (v7 + 1)))) = some (r, x') := hf
    refine lv_iload hx hb dd_OU_chancesToHold_41 (lv_at hl 6 rfl) ?_
    refine lv_iload hx hb dd_OU_chancesToHold_43 (lv_at hl 4 rfl) ?_
    refine lv_icmp_gt (tgt := 76) hx hb dd_OU_chancesToHold_45 (by decide) (fun h_11 => ?_) (fun h_11 => ?_)
    · have hf := (if_pos h_11).symm.trans hf
      exact ww_OU_chancesToHold_76 C0 hap  ho_v0 hf hP hS (lv_sub hl [0, 3] rfl)
    · have hf := (if_neg h_11).symm.trans hf
      refine lv_aload_n hx hb dd_OU_chancesToHold_48 rfl (lv_at hl 1 rfl) ?_
      refine lv_aload_n hx hb dd_OU_chancesToHold_49 rfl (lv_at hl 0 rfl) ?_
      refine gf_OU_15 C0 hP ho_v0 dd_OU_chancesToHold_50 ?_
      refine lv_iload_n hx hb dd_OU_chancesToHold_53 rfl (lv_at hl 2 rfl) ?_
      refine lv_aload_n hx hb dd_OU_chancesToHold_54 rfl (lv_at hl 1 rfl) ?_
      refine gf_OU_31 C0 hP ho_v1 dd_OU_chancesToHold_55 ?_
      refine lv_iload hx hb dd_OU_chancesToHold_58 (lv_at hl 6 rfl) ?_
      refine lv_iadd hx hb dd_OU_chancesToHold_60 ?_
      obtain ⟨_, x_16, c_17, hf⟩ := of_bnd hf
      refine cl_OU_52 C0 hap ho_v1 (tp_2_1 ho_v0) c_17 hP hS ⟨Nat.le_of_ble_eq_true rfl, Nat.le_of_ble_eq_true rfl⟩ hl.1 (Nat.le_of_ble_eq_true rfl) dd_OU_chancesToHold_61 ⟨Nat.le_refl _, Nat.le_refl _⟩ (fun H locs hP hS => ?_)
      refine lv_aload_n hx hb dd_OU_chancesToHold_64 rfl (lv_at hl 0 rfl) ?_
      refine lv_iload hx hb dd_OU_chancesToHold_65 (lv_at hl 5 rfl) ?_
      obtain ⟨_, x_19, c_20, hf⟩ := of_bnd hf
      refine cl_OU_74 C0 hap ho_v0 c_20 hP hS ⟨Nat.le_of_ble_eq_true rfl, Nat.le_of_ble_eq_true rfl⟩ hl.1 (Nat.le_of_ble_eq_true rfl) dd_OU_chancesToHold_67 ⟨Nat.le_refl _, Nat.le_refl _⟩ (fun H locs hP hS => ?_)
      refine lv_iinc (v := v7 + 1) (lv' := [(7, .int (v7 + 1)), (0, .ref (ad v0)), (1, .ref (ad v1)), (2, .int v2), (3, .int v3), (4, .int v4), (5, .int v5)]) hx hb dd_OU_chancesToHold_70 hl (k := 6) rfl rfl (by decide) rfl (fun ls hl => ?_)
      refine lv_goto (tgt := 41) hx hb dd_OU_chancesToHold_73 (by decide) ?_
      exact ih x_19 v0 v1 v2 v3 v4 v5 (v7 + 1) ho_v0 ho_v1 hf _ _ _ hP hS (lv_sub hl [1, 2, 3, 4, 5, 6, 0] rfl)
set_option maxHeartbeats 4000000 in
set_option maxRecDepth 100000 in
theorem ww_OU_chancesToHold {p : Program} {l : Launch} {e : Env} {s : State} {m : MethodId} {args : Array Value} {below : List Frame} {meth : Method} {c : Code} {E : Ev} {A : Nat → Prop} {ad : Nat → Nat} {r : Int64} {x' : St} (C0 : Cx E A ROU bb_OU_chancesToHold 10 (some .long) p s m args meth c) (hap : Ap ad ixC A)  {x : St} {v0 : Nat} {v1 : Nat} {v2 : Int32} {v3 : Int32} {v4 : Int32} {v5 : Int32} (ho_v0 : isO ixC v0 2) (ho_v1 : isO ixC v1 4) (hf : ff_OU_chancesToHold x v0 v1 v2 v3 v4 v5 = some (r, x')) {H : Heap} {locs : List Loc} {ls : Array Slot} (hP : Wd E ad ixC x H) (hS : va_S A s.heap H locs) (hl : lv_has ls 10 [(0, .ref (ad v0)), (1, .ref (ad v1)), (2, .int v2), (3, .int v3), (4, .int v4), (5, .int v5)]) : W p l e rm_OU_chancesToHold s m args below meth c H locs 0 0 (MQ below (QX E ad ixC A (some (.long r)) x') args s 0 0 A) (F0 m 0 ls []) := by
  obtain ⟨hx, hb, hml, hr, hown, hts, hlk, hK⟩ := id C0
  have hf : bnd (ff_SH_griefOn x v1 v2 (gi x v1 9)) (fun r_1 x_2 => bnd (ff_AR_fillJ x_2 (rf v0 4) 0) (fun _ x_5 => bnd (ff_GG_isWithin x_5 r_1 0 99) (fun r_7 x_8 => (if r_7 = 0 then ff_OU_chancesToHold_41 FU x_8 v0 v1 v2 v3 v4 v5 1 else (if ixb r_1 (ln (rf v0 4)) = true then st (sl x_8 (rf v0 4) (ix r_1) 1) (fun x_22 => ff_OU_chancesToHold_41 FU x_22 v0 v1 v2 v3 v4 v5 1) else none))))) = some (r, x') := hf
  refine lv_aload_n hx hb dd_OU_chancesToHold_0 rfl (lv_at hl 1 rfl) ?_
  refine lv_iload_n hx hb dd_OU_chancesToHold_1 rfl (lv_at hl 2 rfl) ?_
  refine lv_aload_n hx hb dd_OU_chancesToHold_2 rfl (lv_at hl 1 rfl) ?_
  refine gf_OU_31 C0 hP ho_v1 dd_OU_chancesToHold_3 ?_
  obtain ⟨r_1, x_2, c_3, hf⟩ := of_bnd hf
  refine cl_OU_37 C0 hap ho_v1 c_3 hP hS ⟨Nat.le_of_ble_eq_true rfl, Nat.le_of_ble_eq_true rfl⟩ hl.1 (Nat.le_of_ble_eq_true rfl) dd_OU_chancesToHold_6 ⟨Nat.le_refl _, Nat.le_refl _⟩ (fun H locs hP hS => ?_)
  refine lv_istore (lv' := [(6, .int r_1), (0, .ref (ad v0)), (1, .ref (ad v1)), (2, .int v2), (3, .int v3), (4, .int v4), (5, .int v5)]) hx hb dd_OU_chancesToHold_9 hl (by decide) rfl (fun ls hl => ?_)
  refine lv_aload_n hx hb dd_OU_chancesToHold_11 rfl (lv_at hl 1 rfl) ?_
  refine gf_OU_24 C0 hP ho_v0 dd_OU_chancesToHold_12 ?_
  refine lv_lconst (v := 0) hx hb dd_OU_chancesToHold_15 (by decide) ?_
  obtain ⟨_, x_5, c_6, hf⟩ := of_bnd hf
  refine cl_OU_71 C0 hap (tp_2_4 ho_v0) c_6 hP hS ⟨Nat.le_of_ble_eq_true rfl, Nat.le_of_ble_eq_true rfl⟩ hl.1 (Nat.le_of_ble_eq_true rfl) dd_OU_chancesToHold_16 ⟨Nat.le_refl _, Nat.le_refl _⟩ (fun H locs hP hS => ?_)
  refine lv_iload hx hb dd_OU_chancesToHold_19 (lv_at hl 0 rfl) ?_
  refine lv_iconst (v := 0) hx hb dd_OU_chancesToHold_21 (by decide) ?_
  refine lv_bipush (v := 99) hx hb dd_OU_chancesToHold_22 (by decide) ?_
  obtain ⟨r_7, x_8, c_9, hf⟩ := of_bnd hf
  refine cl_OU_41 C0 hap  c_9 hP hS ⟨Nat.le_of_ble_eq_true rfl, Nat.le_of_ble_eq_true rfl⟩ hl.1 (Nat.le_of_ble_eq_true rfl) dd_OU_chancesToHold_24 ⟨Nat.le_refl _, Nat.le_refl _⟩ (fun H locs hP hS => ?_)
  refine lv_if_eq (tgt := 38) hx hb dd_OU_chancesToHold_27 (by decide) (fun h_10 => ?_) (fun h_10 => ?_)
  · have hf := (if_pos h_10).symm.trans hf
    refine lv_iconst (v := 1) hx hb dd_OU_chancesToHold_38 (by decide) ?_
    refine lv_istore (lv' := [(7, .int 1), (6, .int r_1), (0, .ref (ad v0)), (1, .ref (ad v1)), (2, .int v2), (3, .int v3), (4, .int v4), (5, .int v5)]) hx hb dd_OU_chancesToHold_39 hl (by decide) rfl (fun ls hl => ?_)
    exact ww_OU_chancesToHold_41 C0 hap  FU x_8 v0 v1 v2 v3 v4 v5 1 ho_v0 ho_v1 hf _ _ _ hP hS (lv_sub hl [2, 3, 4, 5, 6, 7, 0] rfl)
  · have hf := (if_neg h_10).symm.trans hf
    refine lv_aload_n hx hb dd_OU_chancesToHold_30 rfl (lv_at hl 1 rfl) ?_
    refine gf_OU_24 C0 hP ho_v0 dd_OU_chancesToHold_31 ?_
    refine lv_iload hx hb dd_OU_chancesToHold_34 (lv_at hl 0 rfl) ?_
    refine lv_lconst (v := 1) hx hb dd_OU_chancesToHold_36 (by decide) ?_
    obtain ⟨h_21, hf⟩ := of_ifb hf
    obtain ⟨x_22, hx_22, hf⟩ := of_st hf
    refine sL C0 hap hP hS (tp_2_4 ho_v0) h_21 hx_22 dd_OU_chancesToHold_37 (fun H locs hP hS => ?_)
    refine lv_iconst (v := 1) hx hb dd_OU_chancesToHold_38 (by decide) ?_
    refine lv_istore (lv' := [(7, .int 1), (6, .int r_1), (0, .ref (ad v0)), (1, .ref (ad v1)), (2, .int v2), (3, .int v3), (4, .int v4), (5, .int v5)]) hx hb dd_OU_chancesToHold_39 hl (by decide) rfl (fun ls hl => ?_)
    exact ww_OU_chancesToHold_41 C0 hap  FU x_22 v0 v1 v2 v3 v4 v5 1 ho_v0 ho_v1 hf _ _ _ hP hS (lv_sub hl [2, 3, 4, 5, 6, 7, 0] rfl)
theorem cc_OU_chancesToHold {l : Launch} {E : Ev} {A : Nat → Prop} {ad : Nat → Nat} (hap : Ap ad ixC A) {x x' : St} {v0 : Nat} {v1 : Nat} {v2 : Int32} {v3 : Int32} {v4 : Int32} {v5 : Int32} {r : Int64} (ho_v0 : isO ixC v0 2) (ho_v1 : isO ixC v1 4) (hf : ff_OU_chancesToHold x v0 v1 v2 v3 v4 v5 = some (r, x')) : Met l yy_OU_chancesToHold (Cond.code yy_OU_chancesToHold bb_OU_chancesToHold 10 (some .long) :: gtb) rm_OU_chancesToHold (va_Pc [.ref (ad v0), .ref (ad v1), .int v2, .int v3, .int v4, .int v5] (PB E A ad ixC x)) (QX E ad ixC A (some (.long r)) x') 0 0 A := by
  exact enter (by decide) (Nat.le_of_ble_eq_true rfl) (fun p e s m below meth c ls C0 hP hS hl => ww_OU_chancesToHold C0 hap ho_v0 ho_v1 hf hP hS hl)
theorem cl_OU_84 {p : Program} {l : Launch} {e : Env} {R : Room} {s : State} {m : MethodId} {args : Array Value} {below : List Frame} {meth : Method} {c : Code} {H : Heap} {locs : List Loc} {cells slots : Nat} {Q : State → Prop} {cc : ByteArray} {pc : Nat} {ls : Array Slot} {rest : List Value} {E : Ev} {A : Nat → Prop} {ad : Nat → Nat} {nL : Nat} {rt : Option FieldType} (C0 : Cx E A ROU cc nL rt p s m args meth c) (hap : Ap ad ixC A) {x x' : St} {v0 : Int32} {v1 : Int32} {v2 : Int32} {r : Int32}  (hc : ff_KI_stepOf x v0 v1 v2 = some (r, x')) (hP : Wd E ad ixC x H) (hS : va_S A s.heap H locs) (hR : rm_KI_stepOf.frames + 1 ≤ R.frames ∧ 8 + (3 + 11) + rm_KI_stepOf.locals ≤ R.locals) (hls : ls.size = nL) (hroom : (rest.map fun v => v.category).sum ≤ 8) (hdg : decode cc pc = .ok (.invokestatic 84, 3)) (hf : cells ≤ R.cells ∧ slots ≤ R.slots) (kk : ∀ H1 locs1, Wd E ad ixC x' H1 → va_S A s.heap H1 locs1 → W p l e R s m args below meth c H1 locs1 cells slots Q (F0 m (pc + 3) ls (.int r :: rest))) : W p l e R s m args below meth c H locs cells slots Q (F0 m pc ls (.int v2 :: .int v1 :: .int v0 :: rest)) :=
  rcS (n := 3) C0 (cc_KI_stepOf hap  hc) hP hS gw_code_KI_stepOf gw_m_OU_84 gw_static_KI_stepOf gw_ini_KI rfl rfl (by decide +kernel) rfl hR hls rfl hroom hdg hf (fun H1 locs1 a _ _ b => kk H1 locs1 a b)
theorem cl_OU_95 {p : Program} {l : Launch} {e : Env} {R : Room} {s : State} {m : MethodId} {args : Array Value} {below : List Frame} {meth : Method} {c : Code} {H : Heap} {locs : List Loc} {cells slots : Nat} {Q : State → Prop} {cc : ByteArray} {pc : Nat} {ls : Array Slot} {rest : List Value} {E : Ev} {A : Nat → Prop} {ad : Nat → Nat} {nL : Nat} {rt : Option FieldType} (C0 : Cx E A ROU cc nL rt p s m args meth c) (hap : Ap ad ixC A) {x x' : St} {v0 : Nat} {v1 : Int32} {v2 : Int32} {r : Int32} (ho_v0 : isO ixC v0 1) (hc : ff_LE_at x v0 v1 v2 = some (r, x')) (hP : Wd E ad ixC x H) (hS : va_S A s.heap H locs) (hR : rm_LE_at.frames + 1 ≤ R.frames ∧ 8 + (3 + 11) + rm_LE_at.locals ≤ R.locals) (hls : ls.size = nL) (hroom : (rest.map fun v => v.category).sum ≤ 8) (hdg : decode cc pc = .ok (.invokevirtual 95, 3)) (hf : cells ≤ R.cells ∧ slots ≤ R.slots) (kk : ∀ H1 locs1, Wd E ad ixC x' H1 → va_S A s.heap H1 locs1 → W p l e R s m args below meth c H1 locs1 cells slots Q (F0 m (pc + 3) ls (.int r :: rest))) : W p l e R s m args below meth c H locs cells slots Q (F0 m pc ls (.int v2 :: .int v1 :: .ref (ad v0) :: rest)) :=
  rcV (n := 2) C0 (cc_LE_at hap ho_v0 hc) hP hS ho_v0 vcl_1 (by decide) gw_code_LE_at gw_m_OU_95 gw_inst_LE_at gw_sel_LE_at gw_ini_LE rfl rfl (by decide +kernel) rfl hR hls rfl hroom hdg hf (fun H1 locs1 a _ _ b => kk H1 locs1 a b)
theorem cl_OU_98 {p : Program} {l : Launch} {e : Env} {R : Room} {s : State} {m : MethodId} {args : Array Value} {below : List Frame} {meth : Method} {c : Code} {H : Heap} {locs : List Loc} {cells slots : Nat} {Q : State → Prop} {cc : ByteArray} {pc : Nat} {ls : Array Slot} {rest : List Value} {E : Ev} {A : Nat → Prop} {ad : Nat → Nat} {nL : Nat} {rt : Option FieldType} (C0 : Cx E A ROU cc nL rt p s m args meth c) (hap : Ap ad ixC A) {x x' : St} {v0 : Option Nat} {v1 : Option Nat} {v2 : Int32} {v3 : Int32} {v4 : Int32} {r : Int32} (ho_v0 : ∀ q, v0 = some q → isO ixC q 20) (ho_v1 : ∀ q, v1 = some q → isO ixC q 20) (hc : ff_SH_firstWeakDay x v0 v1 v2 v3 v4 = some (r, x')) (hP : Wd E ad ixC x H) (hS : va_S A s.heap H locs) (hR : rm_SH_firstWeakDay.frames + 1 ≤ R.frames ∧ 8 + (7 + 11) + rm_SH_firstWeakDay.locals ≤ R.locals) (hls : ls.size = nL) (hroom : (rest.map fun v => v.category).sum ≤ 8) (hdg : decode cc pc = .ok (.invokestatic 98, 3)) (hf : cells ≤ R.cells ∧ slots ≤ R.slots) (kk : ∀ H1 locs1, Wd E ad ixC x' H1 → va_S A s.heap H1 locs1 → W p l e R s m args below meth c H1 locs1 cells slots Q (F0 m (pc + 3) ls (.int r :: rest))) : W p l e R s m args below meth c H locs cells slots Q (F0 m pc ls (.int v4 :: .int v3 :: .int v2 :: va_re ad v1 :: va_re ad v0 :: rest)) :=
  rcS (n := 5) C0 (cc_SH_firstWeakDay hap ho_v0 ho_v1 hc) hP hS gw_code_SH_firstWeakDay gw_m_OU_98 gw_static_SH_firstWeakDay gw_ini_SH rfl rfl (by decide +kernel) rfl hR hls rfl hroom hdg hf (fun H1 locs1 a _ _ b => kk H1 locs1 a b)
abbrev rm_OU_isByFacts : Room := { frames := 3, cells := 0, slots := 0, locals := 63 }
theorem dd_OU_isByFacts_0 : decode bb_OU_isByFacts 0 = .ok (.iload_n 3, 1) := by decide +kernel
theorem dd_OU_isByFacts_1 : decode bb_OU_isByFacts 1 = .ok (.istore 4, 2) := by decide +kernel
theorem dd_OU_isByFacts_3 : decode bb_OU_isByFacts 3 = .ok (.aload_n 0, 1) := by decide +kernel
theorem dd_OU_isByFacts_4 : decode bb_OU_isByFacts 4 = .ok (.getfield 9, 3) := by decide +kernel
theorem dd_OU_isByFacts_7 : decode bb_OU_isByFacts 7 = .ok (.iconst 0, 1) := by decide +kernel
theorem dd_OU_isByFacts_8 : decode bb_OU_isByFacts 8 = .ok (.iload 4, 2) := by decide +kernel
theorem dd_OU_isByFacts_10 : decode bb_OU_isByFacts 10 = .ok (.iastore, 1) := by decide +kernel
theorem dd_OU_isByFacts_11 : decode bb_OU_isByFacts 11 = .ok (.iconst 1, 1) := by decide +kernel
theorem dd_OU_isByFacts_12 : decode bb_OU_isByFacts 12 = .ok (.istore 5, 2) := by decide +kernel
theorem dd_OU_isByFacts_14 : decode bb_OU_isByFacts 14 = .ok (.iload 5, 2) := by decide +kernel
theorem dd_OU_isByFacts_16 : decode bb_OU_isByFacts 16 = .ok (.bipush 100, 2) := by decide +kernel
theorem dd_OU_isByFacts_18 : decode bb_OU_isByFacts 18 = .ok (.if_icmp .ge 28, 3) := by decide +kernel
theorem dd_OU_isByFacts_21 : decode bb_OU_isByFacts 21 = .ok (.iload_n 2, 1) := by decide +kernel
theorem dd_OU_isByFacts_22 : decode bb_OU_isByFacts 22 = .ok (.iload 4, 2) := by decide +kernel
theorem dd_OU_isByFacts_24 : decode bb_OU_isByFacts 24 = .ok (.iload 5, 2) := by decide +kernel
theorem dd_OU_isByFacts_26 : decode bb_OU_isByFacts 26 = .ok (.invokestatic 84, 3) := by decide +kernel
theorem dd_OU_isByFacts_29 : decode bb_OU_isByFacts 29 = .ok (.istore 4, 2) := by decide +kernel
theorem dd_OU_isByFacts_31 : decode bb_OU_isByFacts 31 = .ok (.aload_n 0, 1) := by decide +kernel
theorem dd_OU_isByFacts_32 : decode bb_OU_isByFacts 32 = .ok (.getfield 9, 3) := by decide +kernel
theorem dd_OU_isByFacts_35 : decode bb_OU_isByFacts 35 = .ok (.iload 5, 2) := by decide +kernel
theorem dd_OU_isByFacts_37 : decode bb_OU_isByFacts 37 = .ok (.iload 4, 2) := by decide +kernel
theorem dd_OU_isByFacts_39 : decode bb_OU_isByFacts 39 = .ok (.iastore, 1) := by decide +kernel
theorem dd_OU_isByFacts_40 : decode bb_OU_isByFacts 40 = .ok (.iinc 5 1, 3) := by decide +kernel
theorem dd_OU_isByFacts_43 : decode bb_OU_isByFacts 43 = .ok (.goto (-29), 3) := by decide +kernel
theorem dd_OU_isByFacts_46 : decode bb_OU_isByFacts 46 = .ok (.iconst 0, 1) := by decide +kernel
theorem dd_OU_isByFacts_47 : decode bb_OU_isByFacts 47 = .ok (.istore 5, 2) := by decide +kernel
theorem dd_OU_isByFacts_49 : decode bb_OU_isByFacts 49 = .ok (.iload 5, 2) := by decide +kernel
theorem dd_OU_isByFacts_51 : decode bb_OU_isByFacts 51 = .ok (.aload_n 1, 1) := by decide +kernel
theorem dd_OU_isByFacts_52 : decode bb_OU_isByFacts 52 = .ok (.getfield 90, 3) := by decide +kernel
theorem dd_OU_isByFacts_55 : decode bb_OU_isByFacts 55 = .ok (.if_icmp .ge 53, 3) := by decide +kernel
theorem dd_OU_isByFacts_58 : decode bb_OU_isByFacts 58 = .ok (.aload_n 1, 1) := by decide +kernel
theorem dd_OU_isByFacts_59 : decode bb_OU_isByFacts 59 = .ok (.iload 5, 2) := by decide +kernel
theorem dd_OU_isByFacts_61 : decode bb_OU_isByFacts 61 = .ok (.iconst 0, 1) := by decide +kernel
theorem dd_OU_isByFacts_62 : decode bb_OU_isByFacts 62 = .ok (.invokevirtual 95, 3) := by decide +kernel
theorem dd_OU_isByFacts_65 : decode bb_OU_isByFacts 65 = .ok (.istore 6, 2) := by decide +kernel
theorem dd_OU_isByFacts_67 : decode bb_OU_isByFacts 67 = .ok (.aload_n 0, 1) := by decide +kernel
theorem dd_OU_isByFacts_68 : decode bb_OU_isByFacts 68 = .ok (.getfield 9, 3) := by decide +kernel
theorem dd_OU_isByFacts_71 : decode bb_OU_isByFacts 71 = .ok (.aconst_null, 1) := by decide +kernel
theorem dd_OU_isByFacts_72 : decode bb_OU_isByFacts 72 = .ok (.iload 6, 2) := by decide +kernel
theorem dd_OU_isByFacts_74 : decode bb_OU_isByFacts 74 = .ok (.aload_n 1, 1) := by decide +kernel
theorem dd_OU_isByFacts_75 : decode bb_OU_isByFacts 75 = .ok (.iload 5, 2) := by decide +kernel
theorem dd_OU_isByFacts_77 : decode bb_OU_isByFacts 77 = .ok (.iconst 1, 1) := by decide +kernel
theorem dd_OU_isByFacts_78 : decode bb_OU_isByFacts 78 = .ok (.invokevirtual 95, 3) := by decide +kernel
theorem dd_OU_isByFacts_81 : decode bb_OU_isByFacts 81 = .ok (.bipush 99, 2) := by decide +kernel
theorem dd_OU_isByFacts_83 : decode bb_OU_isByFacts 83 = .ok (.invokestatic 98, 3) := by decide +kernel
theorem dd_OU_isByFacts_86 : decode bb_OU_isByFacts 86 = .ok (.istore 7, 2) := by decide +kernel
theorem dd_OU_isByFacts_88 : decode bb_OU_isByFacts 88 = .ok (.iload 7, 2) := by decide +kernel
theorem dd_OU_isByFacts_90 : decode bb_OU_isByFacts 90 = .ok (.aload_n 1, 1) := by decide +kernel
theorem dd_OU_isByFacts_91 : decode bb_OU_isByFacts 91 = .ok (.iload 5, 2) := by decide +kernel
theorem dd_OU_isByFacts_93 : decode bb_OU_isByFacts 93 = .ok (.iconst 2, 1) := by decide +kernel
theorem dd_OU_isByFacts_94 : decode bb_OU_isByFacts 94 = .ok (.invokevirtual 95, 3) := by decide +kernel
theorem dd_OU_isByFacts_97 : decode bb_OU_isByFacts 97 = .ok (.if_icmp .eq 5, 3) := by decide +kernel
theorem dd_OU_isByFacts_100 : decode bb_OU_isByFacts 100 = .ok (.iconst 0, 1) := by decide +kernel
theorem dd_OU_isByFacts_101 : decode bb_OU_isByFacts 101 = .ok (.ireturn, 1) := by decide +kernel
theorem dd_OU_isByFacts_102 : decode bb_OU_isByFacts 102 = .ok (.iinc 5 1, 3) := by decide +kernel
theorem dd_OU_isByFacts_105 : decode bb_OU_isByFacts 105 = .ok (.goto (-56), 3) := by decide +kernel
theorem dd_OU_isByFacts_108 : decode bb_OU_isByFacts 108 = .ok (.iconst 1, 1) := by decide +kernel
theorem dd_OU_isByFacts_109 : decode bb_OU_isByFacts 109 = .ok (.ireturn, 1) := by decide +kernel
def ff_OU_isByFacts_49  : Nat → St → Nat → Nat → Int32 → Option (Int32 × St)
  | 0, _, _, _, _ => none
  | n + 1, x, v0, v1, v5 => (if (gi x v1 3) ≤ v5 then some (1, x) else bnd (ff_LE_at x v1 v5 0) (fun r_5 x_6 => bnd (ff_LE_at x_6 v1 v5 1) (fun r_8 x_9 => bnd (ff_SH_firstWeakDay x_9 (some (rf v0 0)) none r_5 r_8 99) (fun r_11 x_12 => bnd (ff_LE_at x_12 v1 v5 2) (fun r_14 x_15 => (if r_11 = r_14 then ff_OU_isByFacts_49 n x_15 v0 v1 (v5 + 1) else some (0, x_15)))))))
def ff_OU_isByFacts_14  : Nat → St → Nat → Nat → Int32 → Int32 → Int32 → Option (Int32 × St)
  | 0, _, _, _, _, _, _ => none
  | n + 1, x, v0, v1, v2, v4, v5 => (if 100 ≤ v5 then ff_OU_isByFacts_49 FU x v0 v1 0 else bnd (ff_KI_stepOf x v2 v4 v5) (fun r_18 x_19 => (if ixb v5 (ln (rf v0 0)) = true then st (si x_19 (rf v0 0) (ix v5) r_18) (fun x_22 => ff_OU_isByFacts_14 n x_22 v0 v1 v2 r_18 (v5 + 1)) else none)))
def ff_OU_isByFacts  (x : St) (v0 : Nat) (v1 : Nat) (v2 : Int32) (v3 : Int32) : Option (Int32 × St) := (if ixb 0 (ln (rf v0 0)) = true then st (si x (rf v0 0) (ix 0) v3) (fun x_2 => ff_OU_isByFacts_14 FU x_2 v0 v1 v2 v3 1) else none)
set_option maxHeartbeats 4000000 in
set_option maxRecDepth 100000 in
theorem ww_OU_isByFacts_49 {p : Program} {l : Launch} {e : Env} {s : State} {m : MethodId} {args : Array Value} {below : List Frame} {meth : Method} {c : Code} {E : Ev} {A : Nat → Prop} {ad : Nat → Nat} {r : Int32} {x' : St} (C0 : Cx E A ROU bb_OU_isByFacts 8 (some .boolean) p s m args meth c) (hap : Ap ad ixC A)  : ∀ (n : Nat), ∀ (x : St) (v0 : Nat) (v1 : Nat) (v5 : Int32), (isO ixC v0 2) → (isO ixC v1 1) → ff_OU_isByFacts_49 n x v0 v1 v5 = some (r, x') → ∀ (H : Heap) (locs : List Loc) (ls : Array Slot), Wd E ad ixC x H → va_S A s.heap H locs → lv_has ls 8 [(0, .ref (ad v0)), (1, .ref (ad v1)), (5, .int v5)] → W p l e rm_OU_isByFacts s m args below meth c H locs 0 0 (MQ below (QX E ad ixC A (some (.int r)) x') args s 0 0 A) (F0 m 49 ls []) := by
  obtain ⟨hx, hb, hml, hr, hown, hts, hlk, hK⟩ := id C0
  intro n
  induction n with
  | zero => intro x v0 v1 v5 ho_v0 ho_v1 hf; exact of_no hf
  | succ n ih =>
    intro x v0 v1 v5 ho_v0 ho_v1 hf H locs ls hP hS hl
    have hf : (if (gi x v1 3) ≤ v5 then some (1, x) else bnd (ff_LE_at x v1 v5 0) (fun r_5 x_6 => bnd (ff_LE_at x_6 v1 v5 1) (fun r_8 x_9 => bnd (ff_SH_firstWeakDay x_9 (some (rf v0 0)) none r_5 r_8 99) (fun r_11 x_12 => bnd (ff_LE_at x_12 v1 v5 2) (fun r_14 x_15 => (if r_11 = r_14 then ff_OU_isByFacts_49 n x_15 v0 v1 (v5 + 1) else some (0, x_15))))))) = some (r, x') := hf
    refine lv_iload hx hb dd_OU_isByFacts_49 (lv_at hl 2 rfl) ?_
    refine lv_aload_n hx hb dd_OU_isByFacts_51 rfl (lv_at hl 1 rfl) ?_
    refine gf_OU_90 C0 hP ho_v1 dd_OU_isByFacts_52 ?_
    refine lv_icmp_ge (tgt := 108) hx hb dd_OU_isByFacts_55 (by decide) (fun h_4 => ?_) (fun h_4 => ?_)
    · have hf := (if_pos h_4).symm.trans hf
      refine lv_iconst (v := 1) hx hb dd_OU_isByFacts_108 (by decide) ?_
      exact rrZ C0 hP hS (by decide) dd_OU_isByFacts_109 hf
    · have hf := (if_neg h_4).symm.trans hf
      refine lv_aload_n hx hb dd_OU_isByFacts_58 rfl (lv_at hl 1 rfl) ?_
      refine lv_iload hx hb dd_OU_isByFacts_59 (lv_at hl 2 rfl) ?_
      refine lv_iconst (v := 0) hx hb dd_OU_isByFacts_61 (by decide) ?_
      obtain ⟨r_5, x_6, c_7, hf⟩ := of_bnd hf
      refine cl_OU_95 C0 hap ho_v1 c_7 hP hS ⟨Nat.le_of_ble_eq_true rfl, Nat.le_of_ble_eq_true rfl⟩ hl.1 (Nat.le_of_ble_eq_true rfl) dd_OU_isByFacts_62 ⟨Nat.le_refl _, Nat.le_refl _⟩ (fun H locs hP hS => ?_)
      refine lv_istore (lv' := [(6, .int r_5), (0, .ref (ad v0)), (1, .ref (ad v1)), (5, .int v5)]) hx hb dd_OU_isByFacts_65 hl (by decide) rfl (fun ls hl => ?_)
      refine lv_aload_n hx hb dd_OU_isByFacts_67 rfl (lv_at hl 1 rfl) ?_
      refine gf_OU_9 C0 hP ho_v0 dd_OU_isByFacts_68 ?_
      refine lv_null hx hb dd_OU_isByFacts_71 ?_
      refine lv_iload hx hb dd_OU_isByFacts_72 (lv_at hl 0 rfl) ?_
      refine lv_aload_n hx hb dd_OU_isByFacts_74 rfl (lv_at hl 2 rfl) ?_
      refine lv_iload hx hb dd_OU_isByFacts_75 (lv_at hl 3 rfl) ?_
      refine lv_iconst (v := 1) hx hb dd_OU_isByFacts_77 (by decide) ?_
      obtain ⟨r_8, x_9, c_10, hf⟩ := of_bnd hf
      refine cl_OU_95 C0 hap ho_v1 c_10 hP hS ⟨Nat.le_of_ble_eq_true rfl, Nat.le_of_ble_eq_true rfl⟩ hl.1 (Nat.le_of_ble_eq_true rfl) dd_OU_isByFacts_78 ⟨Nat.le_refl _, Nat.le_refl _⟩ (fun H locs hP hS => ?_)
      refine lv_bipush (v := 99) hx hb dd_OU_isByFacts_81 (by decide) ?_
      obtain ⟨r_11, x_12, c_13, hf⟩ := of_bnd hf
      refine cl_OU_98 C0 hap (fun _ h => Option.some.inj h ▸ (tp_2_0 ho_v0)) (fun _ h => by cases h) c_13 hP hS ⟨Nat.le_of_ble_eq_true rfl, Nat.le_of_ble_eq_true rfl⟩ hl.1 (Nat.le_of_ble_eq_true rfl) dd_OU_isByFacts_83 ⟨Nat.le_refl _, Nat.le_refl _⟩ (fun H locs hP hS => ?_)
      refine lv_istore (lv' := [(7, .int r_11), (6, .int r_5), (0, .ref (ad v0)), (1, .ref (ad v1)), (5, .int v5)]) hx hb dd_OU_isByFacts_86 hl (by decide) rfl (fun ls hl => ?_)
      refine lv_iload hx hb dd_OU_isByFacts_88 (lv_at hl 0 rfl) ?_
      refine lv_aload_n hx hb dd_OU_isByFacts_90 rfl (lv_at hl 3 rfl) ?_
      refine lv_iload hx hb dd_OU_isByFacts_91 (lv_at hl 4 rfl) ?_
      refine lv_iconst (v := 2) hx hb dd_OU_isByFacts_93 (by decide) ?_
      obtain ⟨r_14, x_15, c_16, hf⟩ := of_bnd hf
      refine cl_OU_95 C0 hap ho_v1 c_16 hP hS ⟨Nat.le_of_ble_eq_true rfl, Nat.le_of_ble_eq_true rfl⟩ hl.1 (Nat.le_of_ble_eq_true rfl) dd_OU_isByFacts_94 ⟨Nat.le_refl _, Nat.le_refl _⟩ (fun H locs hP hS => ?_)
      refine lv_icmp_eq (tgt := 102) hx hb dd_OU_isByFacts_97 (by decide) (fun h_17 => ?_) (fun h_17 => ?_)
      · have hf := (if_pos h_17).symm.trans hf
        refine lv_iinc (v := v5 + 1) (lv' := [(5, .int (v5 + 1)), (7, .int r_11), (6, .int r_5), (0, .ref (ad v0)), (1, .ref (ad v1))]) hx hb dd_OU_isByFacts_102 hl (k := 4) rfl rfl (by decide) rfl (fun ls hl => ?_)
        refine lv_goto (tgt := 49) hx hb dd_OU_isByFacts_105 (by decide) ?_
        exact ih x_15 v0 v1 (v5 + 1) ho_v0 ho_v1 hf _ _ _ hP hS (lv_sub hl [3, 4, 0] rfl)
      · have hf := (if_neg h_17).symm.trans hf
        refine lv_iconst (v := 0) hx hb dd_OU_isByFacts_100 (by decide) ?_
        exact rrZ C0 hP hS (by decide) dd_OU_isByFacts_101 hf
set_option maxHeartbeats 4000000 in
set_option maxRecDepth 100000 in
theorem ww_OU_isByFacts_14 {p : Program} {l : Launch} {e : Env} {s : State} {m : MethodId} {args : Array Value} {below : List Frame} {meth : Method} {c : Code} {E : Ev} {A : Nat → Prop} {ad : Nat → Nat} {r : Int32} {x' : St} (C0 : Cx E A ROU bb_OU_isByFacts 8 (some .boolean) p s m args meth c) (hap : Ap ad ixC A)  : ∀ (n : Nat), ∀ (x : St) (v0 : Nat) (v1 : Nat) (v2 : Int32) (v4 : Int32) (v5 : Int32), (isO ixC v0 2) → (isO ixC v1 1) → ff_OU_isByFacts_14 n x v0 v1 v2 v4 v5 = some (r, x') → ∀ (H : Heap) (locs : List Loc) (ls : Array Slot), Wd E ad ixC x H → va_S A s.heap H locs → lv_has ls 8 [(0, .ref (ad v0)), (1, .ref (ad v1)), (2, .int v2), (4, .int v4), (5, .int v5)] → W p l e rm_OU_isByFacts s m args below meth c H locs 0 0 (MQ below (QX E ad ixC A (some (.int r)) x') args s 0 0 A) (F0 m 14 ls []) := by
  obtain ⟨hx, hb, hml, hr, hown, hts, hlk, hK⟩ := id C0
  intro n
  induction n with
  | zero => intro x v0 v1 v2 v4 v5 ho_v0 ho_v1 hf; exact of_no hf
  | succ n ih =>
    intro x v0 v1 v2 v4 v5 ho_v0 ho_v1 hf H locs ls hP hS hl
    have hf : (if 100 ≤ v5 then ff_OU_isByFacts_49 FU x v0 v1 0 else bnd (ff_KI_stepOf x v2 v4 v5) (fun r_18 x_19 => (if ixb v5 (ln (rf v0 0)) = true then st (si x_19 (rf v0 0) (ix v5) r_18) (fun x_22 => ff_OU_isByFacts_14 n x_22 v0 v1 v2 r_18 (v5 + 1)) else none))) = some (r, x') := hf
    refine lv_iload hx hb dd_OU_isByFacts_14 (lv_at hl 4 rfl) ?_
    refine lv_bipush (v := 100) hx hb dd_OU_isByFacts_16 (by decide) ?_
    refine lv_icmp_ge (tgt := 46) hx hb dd_OU_isByFacts_18 (by decide) (fun h_3 => ?_) (fun h_3 => ?_)
    · have hf := (if_pos h_3).symm.trans hf
      refine lv_iconst (v := 0) hx hb dd_OU_isByFacts_46 (by decide) ?_
      refine lv_istore (lv' := [(5, .int 0), (0, .ref (ad v0)), (1, .ref (ad v1)), (2, .int v2), (4, .int v4)]) hx hb dd_OU_isByFacts_47 hl (by decide) rfl (fun ls hl => ?_)
      exact ww_OU_isByFacts_49 C0 hap  FU x v0 v1 0 ho_v0 ho_v1 hf _ _ _ hP hS (lv_sub hl [1, 2, 0] rfl)
    · have hf := (if_neg h_3).symm.trans hf
      refine lv_iload_n hx hb dd_OU_isByFacts_21 rfl (lv_at hl 2 rfl) ?_
      refine lv_iload hx hb dd_OU_isByFacts_22 (lv_at hl 3 rfl) ?_
      refine lv_iload hx hb dd_OU_isByFacts_24 (lv_at hl 4 rfl) ?_
      obtain ⟨r_18, x_19, c_20, hf⟩ := of_bnd hf
      refine cl_OU_84 C0 hap  c_20 hP hS ⟨Nat.le_of_ble_eq_true rfl, Nat.le_of_ble_eq_true rfl⟩ hl.1 (Nat.le_of_ble_eq_true rfl) dd_OU_isByFacts_26 ⟨Nat.le_refl _, Nat.le_refl _⟩ (fun H locs hP hS => ?_)
      refine lv_istore (lv' := [(4, .int r_18), (0, .ref (ad v0)), (1, .ref (ad v1)), (2, .int v2), (5, .int v5)]) hx hb dd_OU_isByFacts_29 hl (by decide) rfl (fun ls hl => ?_)
      refine lv_aload_n hx hb dd_OU_isByFacts_31 rfl (lv_at hl 1 rfl) ?_
      refine gf_OU_9 C0 hP ho_v0 dd_OU_isByFacts_32 ?_
      refine lv_iload hx hb dd_OU_isByFacts_35 (lv_at hl 4 rfl) ?_
      refine lv_iload hx hb dd_OU_isByFacts_37 (lv_at hl 0 rfl) ?_
      obtain ⟨h_21, hf⟩ := of_ifb hf
      obtain ⟨x_22, hx_22, hf⟩ := of_st hf
      refine sI C0 hap hP hS (tp_2_0 ho_v0) h_21 hx_22 dd_OU_isByFacts_39 (fun H locs hP hS => ?_)
      refine lv_iinc (v := v5 + 1) (lv' := [(5, .int (v5 + 1)), (4, .int r_18), (0, .ref (ad v0)), (1, .ref (ad v1)), (2, .int v2)]) hx hb dd_OU_isByFacts_40 hl (k := 4) rfl rfl (by decide) rfl (fun ls hl => ?_)
      refine lv_goto (tgt := 14) hx hb dd_OU_isByFacts_43 (by decide) ?_
      exact ih x_22 v0 v1 v2 r_18 (v5 + 1) ho_v0 ho_v1 hf _ _ _ hP hS (lv_sub hl [2, 3, 4, 1, 0] rfl)
set_option maxHeartbeats 4000000 in
set_option maxRecDepth 100000 in
theorem ww_OU_isByFacts {p : Program} {l : Launch} {e : Env} {s : State} {m : MethodId} {args : Array Value} {below : List Frame} {meth : Method} {c : Code} {E : Ev} {A : Nat → Prop} {ad : Nat → Nat} {r : Int32} {x' : St} (C0 : Cx E A ROU bb_OU_isByFacts 8 (some .boolean) p s m args meth c) (hap : Ap ad ixC A)  {x : St} {v0 : Nat} {v1 : Nat} {v2 : Int32} {v3 : Int32} (ho_v0 : isO ixC v0 2) (ho_v1 : isO ixC v1 1) (hf : ff_OU_isByFacts x v0 v1 v2 v3 = some (r, x')) {H : Heap} {locs : List Loc} {ls : Array Slot} (hP : Wd E ad ixC x H) (hS : va_S A s.heap H locs) (hl : lv_has ls 8 [(0, .ref (ad v0)), (1, .ref (ad v1)), (2, .int v2), (3, .int v3)]) : W p l e rm_OU_isByFacts s m args below meth c H locs 0 0 (MQ below (QX E ad ixC A (some (.int r)) x') args s 0 0 A) (F0 m 0 ls []) := by
  obtain ⟨hx, hb, hml, hr, hown, hts, hlk, hK⟩ := id C0
  have hf : (if ixb 0 (ln (rf v0 0)) = true then st (si x (rf v0 0) (ix 0) v3) (fun x_2 => ff_OU_isByFacts_14 FU x_2 v0 v1 v2 v3 1) else none) = some (r, x') := hf
  refine lv_iload_n hx hb dd_OU_isByFacts_0 rfl (lv_at hl 3 rfl) ?_
  refine lv_istore (lv' := [(4, .int v3), (0, .ref (ad v0)), (1, .ref (ad v1)), (2, .int v2), (3, .int v3)]) hx hb dd_OU_isByFacts_1 hl (by decide) rfl (fun ls hl => ?_)
  refine lv_aload_n hx hb dd_OU_isByFacts_3 rfl (lv_at hl 1 rfl) ?_
  refine gf_OU_9 C0 hP ho_v0 dd_OU_isByFacts_4 ?_
  refine lv_iconst (v := 0) hx hb dd_OU_isByFacts_7 (by decide) ?_
  refine lv_iload hx hb dd_OU_isByFacts_8 (lv_at hl 0 rfl) ?_
  obtain ⟨h_1, hf⟩ := of_ifb hf
  obtain ⟨x_2, hx_2, hf⟩ := of_st hf
  refine sI C0 hap hP hS (tp_2_0 ho_v0) h_1 hx_2 dd_OU_isByFacts_10 (fun H locs hP hS => ?_)
  refine lv_iconst (v := 1) hx hb dd_OU_isByFacts_11 (by decide) ?_
  refine lv_istore (lv' := [(5, .int 1), (4, .int v3), (0, .ref (ad v0)), (1, .ref (ad v1)), (2, .int v2), (3, .int v3)]) hx hb dd_OU_isByFacts_12 hl (by decide) rfl (fun ls hl => ?_)
  exact ww_OU_isByFacts_14 C0 hap  FU x_2 v0 v1 v2 v3 1 ho_v0 ho_v1 hf _ _ _ hP hS (lv_sub hl [2, 3, 4, 1, 0] rfl)
theorem cc_OU_isByFacts {l : Launch} {E : Ev} {A : Nat → Prop} {ad : Nat → Nat} (hap : Ap ad ixC A) {x x' : St} {v0 : Nat} {v1 : Nat} {v2 : Int32} {v3 : Int32} {r : Int32} (ho_v0 : isO ixC v0 2) (ho_v1 : isO ixC v1 1) (hf : ff_OU_isByFacts x v0 v1 v2 v3 = some (r, x')) : Met l yy_OU_isByFacts (Cond.code yy_OU_isByFacts bb_OU_isByFacts 8 (some .boolean) :: gtb) rm_OU_isByFacts (va_Pc [.ref (ad v0), .ref (ad v1), .int v2, .int v3] (PB E A ad ixC x)) (QX E ad ixC A (some (.int r)) x') 0 0 A := by
  exact enter (by decide) (Nat.le_of_ble_eq_true rfl) (fun p e s m below meth c ls C0 hP hS hl => ww_OU_isByFacts C0 hap ho_v0 ho_v1 hf hP hS hl)
theorem cl_OU_80 {p : Program} {l : Launch} {e : Env} {R : Room} {s : State} {m : MethodId} {args : Array Value} {below : List Frame} {meth : Method} {c : Code} {H : Heap} {locs : List Loc} {cells slots : Nat} {Q : State → Prop} {cc : ByteArray} {pc : Nat} {ls : Array Slot} {rest : List Value} {E : Ev} {A : Nat → Prop} {ad : Nat → Nat} {nL : Nat} {rt : Option FieldType} (C0 : Cx E A ROU cc nL rt p s m args meth c) (hap : Ap ad ixC A) {x x' : St} {v0 : Nat} {v1 : Nat} {v2 : Int32} {v3 : Int32} {r : Int32} (ho_v0 : isO ixC v0 2) (ho_v1 : isO ixC v1 1) (hc : ff_OU_isByFacts x v0 v1 v2 v3 = some (r, x')) (hP : Wd E ad ixC x H) (hS : va_S A s.heap H locs) (hR : rm_OU_isByFacts.frames + 1 ≤ R.frames ∧ 8 + (8 + 11) + rm_OU_isByFacts.locals ≤ R.locals) (hls : ls.size = nL) (hroom : (rest.map fun v => v.category).sum ≤ 8) (hdg : decode cc pc = .ok (.invokevirtual 80, 3)) (hf : cells ≤ R.cells ∧ slots ≤ R.slots) (kk : ∀ H1 locs1, Wd E ad ixC x' H1 → va_S A s.heap H1 locs1 → W p l e R s m args below meth c H1 locs1 cells slots Q (F0 m (pc + 3) ls (.int r :: rest))) : W p l e R s m args below meth c H locs cells slots Q (F0 m pc ls (.int v3 :: .int v2 :: .ref (ad v1) :: .ref (ad v0) :: rest)) :=
  rcV (n := 3) C0 (cc_OU_isByFacts hap ho_v0 ho_v1 hc) hP hS ho_v0 vcl_2 (by decide) gw_code_OU_isByFacts gw_m_OU_80 gw_inst_OU_isByFacts gw_sel_OU_isByFacts gw_ini_OU rfl rfl (by decide +kernel) rfl hR hls rfl hroom hdg hf (fun H1 locs1 a _ _ b => kk H1 locs1 a b)
abbrev rm_OU_firstGriefs : Room := { frames := 4, cells := 0, slots := 0, locals := 90 }
theorem dd_OU_firstGriefs_0 : decode bb_OU_firstGriefs 0 = .ok (.iconst 0, 1) := by decide +kernel
theorem dd_OU_firstGriefs_1 : decode bb_OU_firstGriefs 1 = .ok (.istore 4, 2) := by decide +kernel
theorem dd_OU_firstGriefs_3 : decode bb_OU_firstGriefs 3 = .ok (.iconst (-1), 1) := by decide +kernel
theorem dd_OU_firstGriefs_4 : decode bb_OU_firstGriefs 4 = .ok (.istore 5, 2) := by decide +kernel
theorem dd_OU_firstGriefs_6 : decode bb_OU_firstGriefs 6 = .ok (.iconst (-1), 1) := by decide +kernel
theorem dd_OU_firstGriefs_7 : decode bb_OU_firstGriefs 7 = .ok (.istore 6, 2) := by decide +kernel
theorem dd_OU_firstGriefs_9 : decode bb_OU_firstGriefs 9 = .ok (.iconst 0, 1) := by decide +kernel
theorem dd_OU_firstGriefs_10 : decode bb_OU_firstGriefs 10 = .ok (.istore 7, 2) := by decide +kernel
theorem dd_OU_firstGriefs_12 : decode bb_OU_firstGriefs 12 = .ok (.iload 7, 2) := by decide +kernel
theorem dd_OU_firstGriefs_14 : decode bb_OU_firstGriefs 14 = .ok (.bipush 100, 2) := by decide +kernel
theorem dd_OU_firstGriefs_16 : decode bb_OU_firstGriefs 16 = .ok (.if_icmp .ge 37, 3) := by decide +kernel
theorem dd_OU_firstGriefs_19 : decode bb_OU_firstGriefs 19 = .ok (.aload_n 0, 1) := by decide +kernel
theorem dd_OU_firstGriefs_20 : decode bb_OU_firstGriefs 20 = .ok (.aload_n 1, 1) := by decide +kernel
theorem dd_OU_firstGriefs_21 : decode bb_OU_firstGriefs 21 = .ok (.iload_n 2, 1) := by decide +kernel
theorem dd_OU_firstGriefs_22 : decode bb_OU_firstGriefs 22 = .ok (.iload 7, 2) := by decide +kernel
theorem dd_OU_firstGriefs_24 : decode bb_OU_firstGriefs 24 = .ok (.invokevirtual 80, 3) := by decide +kernel
theorem dd_OU_firstGriefs_27 : decode bb_OU_firstGriefs 27 = .ok (.ifCond .eq 20, 3) := by decide +kernel
theorem dd_OU_firstGriefs_30 : decode bb_OU_firstGriefs 30 = .ok (.iinc 4 1, 3) := by decide +kernel
theorem dd_OU_firstGriefs_33 : decode bb_OU_firstGriefs 33 = .ok (.iload 7, 2) := by decide +kernel
theorem dd_OU_firstGriefs_35 : decode bb_OU_firstGriefs 35 = .ok (.istore 6, 2) := by decide +kernel
theorem dd_OU_firstGriefs_37 : decode bb_OU_firstGriefs 37 = .ok (.iload 5, 2) := by decide +kernel
theorem dd_OU_firstGriefs_39 : decode bb_OU_firstGriefs 39 = .ok (.iconst (-1), 1) := by decide +kernel
theorem dd_OU_firstGriefs_40 : decode bb_OU_firstGriefs 40 = .ok (.if_icmp .ne 7, 3) := by decide +kernel
theorem dd_OU_firstGriefs_43 : decode bb_OU_firstGriefs 43 = .ok (.iload 7, 2) := by decide +kernel
theorem dd_OU_firstGriefs_45 : decode bb_OU_firstGriefs 45 = .ok (.istore 5, 2) := by decide +kernel
theorem dd_OU_firstGriefs_47 : decode bb_OU_firstGriefs 47 = .ok (.iinc 7 1, 3) := by decide +kernel
theorem dd_OU_firstGriefs_50 : decode bb_OU_firstGriefs 50 = .ok (.goto (-38), 3) := by decide +kernel
theorem dd_OU_firstGriefs_53 : decode bb_OU_firstGriefs 53 = .ok (.iload_n 3, 1) := by decide +kernel
theorem dd_OU_firstGriefs_54 : decode bb_OU_firstGriefs 54 = .ok (.ifCond .ne 6, 3) := by decide +kernel
theorem dd_OU_firstGriefs_57 : decode bb_OU_firstGriefs 57 = .ok (.iload 4, 2) := by decide +kernel
theorem dd_OU_firstGriefs_59 : decode bb_OU_firstGriefs 59 = .ok (.ireturn, 1) := by decide +kernel
theorem dd_OU_firstGriefs_60 : decode bb_OU_firstGriefs 60 = .ok (.iload_n 3, 1) := by decide +kernel
theorem dd_OU_firstGriefs_61 : decode bb_OU_firstGriefs 61 = .ok (.iconst 1, 1) := by decide +kernel
theorem dd_OU_firstGriefs_62 : decode bb_OU_firstGriefs 62 = .ok (.if_icmp .ne 8, 3) := by decide +kernel
theorem dd_OU_firstGriefs_65 : decode bb_OU_firstGriefs 65 = .ok (.iload 5, 2) := by decide +kernel
theorem dd_OU_firstGriefs_67 : decode bb_OU_firstGriefs 67 = .ok (.goto 5, 3) := by decide +kernel
theorem dd_OU_firstGriefs_70 : decode bb_OU_firstGriefs 70 = .ok (.iload 6, 2) := by decide +kernel
theorem dd_OU_firstGriefs_72 : decode bb_OU_firstGriefs 72 = .ok (.ireturn, 1) := by decide +kernel
def ff_OU_firstGriefs_53  (x : St) (v3 : Int32) (v4 : Int32) (v5 : Int32) (v6 : Int32) : Option (Int32 × St) := (if v3 = 0 then some (v4, x) else (if v3 = 1 then some (v5, x) else some (v6, x)))
def ff_OU_firstGriefs_12  : Nat → St → Nat → Nat → Int32 → Int32 → Int32 → Int32 → Int32 → Int32 → Option (Int32 × St)
  | 0, _, _, _, _, _, _, _, _, _ => none
  | n + 1, x, v0, v1, v2, v3, v4, v5, v6, v7 => (if 100 ≤ v7 then ff_OU_firstGriefs_53 x v3 v4 v5 v6 else bnd (ff_OU_isByFacts x v0 v1 v2 v7) (fun r_4 x_5 => (if r_4 = 0 then ff_OU_firstGriefs_12 n x_5 v0 v1 v2 v3 v4 v5 v6 (v7 + 1) else (if v5 = (-1) then ff_OU_firstGriefs_12 n x_5 v0 v1 v2 v3 (v4 + 1) v7 v7 (v7 + 1) else ff_OU_firstGriefs_12 n x_5 v0 v1 v2 v3 (v4 + 1) v5 v7 (v7 + 1)))))
def ff_OU_firstGriefs  (x : St) (v0 : Nat) (v1 : Nat) (v2 : Int32) (v3 : Int32) : Option (Int32 × St) := ff_OU_firstGriefs_12 FU x v0 v1 v2 v3 0 (-1) (-1) 0
set_option maxHeartbeats 4000000 in
set_option maxRecDepth 100000 in
theorem ww_OU_firstGriefs_53 {p : Program} {l : Launch} {e : Env} {s : State} {m : MethodId} {args : Array Value} {below : List Frame} {meth : Method} {c : Code} {E : Ev} {A : Nat → Prop} {ad : Nat → Nat} {r : Int32} {x' : St} (C0 : Cx E A ROU bb_OU_firstGriefs 8 (some .int) p s m args meth c) (hap : Ap ad ixC A)  {x : St} {v3 : Int32} {v4 : Int32} {v5 : Int32} {v6 : Int32}  (hf : ff_OU_firstGriefs_53 x v3 v4 v5 v6 = some (r, x')) {H : Heap} {locs : List Loc} {ls : Array Slot} (hP : Wd E ad ixC x H) (hS : va_S A s.heap H locs) (hl : lv_has ls 8 [(3, .int v3), (4, .int v4), (5, .int v5), (6, .int v6)]) : W p l e rm_OU_firstGriefs s m args below meth c H locs 0 0 (MQ below (QX E ad ixC A (some (.int r)) x') args s 0 0 A) (F0 m 53 ls []) := by
  obtain ⟨hx, hb, hml, hr, hown, hts, hlk, hK⟩ := id C0
  have hf : (if v3 = 0 then some (v4, x) else (if v3 = 1 then some (v5, x) else some (v6, x))) = some (r, x') := hf
  refine lv_iload_n hx hb dd_OU_firstGriefs_53 rfl (lv_at hl 0 rfl) ?_
  refine lv_if_ne (tgt := 60) hx hb dd_OU_firstGriefs_54 (by decide) (fun h_2 => ?_) (fun h_2 => ?_)
  · have hf := (if_neg h_2).symm.trans hf
    refine lv_iload_n hx hb dd_OU_firstGriefs_60 rfl (lv_at hl 0 rfl) ?_
    refine lv_iconst (v := 1) hx hb dd_OU_firstGriefs_61 (by decide) ?_
    refine lv_icmp_ne (tgt := 70) hx hb dd_OU_firstGriefs_62 (by decide) (fun h_3 => ?_) (fun h_3 => ?_)
    · have hf := (if_neg h_3).symm.trans hf
      refine lv_iload hx hb dd_OU_firstGriefs_70 (lv_at hl 3 rfl) ?_
      exact rrI C0 hP hS dd_OU_firstGriefs_72 hf
    · have hf := (if_pos h_3).symm.trans hf
      refine lv_iload hx hb dd_OU_firstGriefs_65 (lv_at hl 2 rfl) ?_
      refine lv_goto (tgt := 72) hx hb dd_OU_firstGriefs_67 (by decide) ?_
      exact rrI C0 hP hS dd_OU_firstGriefs_72 hf
  · have hf := (if_pos h_2).symm.trans hf
    refine lv_iload hx hb dd_OU_firstGriefs_57 (lv_at hl 1 rfl) ?_
    exact rrI C0 hP hS dd_OU_firstGriefs_59 hf
set_option maxHeartbeats 4000000 in
set_option maxRecDepth 100000 in
theorem ww_OU_firstGriefs_12 {p : Program} {l : Launch} {e : Env} {s : State} {m : MethodId} {args : Array Value} {below : List Frame} {meth : Method} {c : Code} {E : Ev} {A : Nat → Prop} {ad : Nat → Nat} {r : Int32} {x' : St} (C0 : Cx E A ROU bb_OU_firstGriefs 8 (some .int) p s m args meth c) (hap : Ap ad ixC A)  : ∀ (n : Nat), ∀ (x : St) (v0 : Nat) (v1 : Nat) (v2 : Int32) (v3 : Int32) (v4 : Int32) (v5 : Int32) (v6 : Int32) (v7 : Int32), (isO ixC v0 2) → (isO ixC v1 1) → ff_OU_firstGriefs_12 n x v0 v1 v2 v3 v4 v5 v6 v7 = some (r, x') → ∀ (H : Heap) (locs : List Loc) (ls : Array Slot), Wd E ad ixC x H → va_S A s.heap H locs → lv_has ls 8 [(0, .ref (ad v0)), (1, .ref (ad v1)), (2, .int v2), (3, .int v3), (4, .int v4), (5, .int v5), (6, .int v6), (7, .int v7)] → W p l e rm_OU_firstGriefs s m args below meth c H locs 0 0 (MQ below (QX E ad ixC A (some (.int r)) x') args s 0 0 A) (F0 m 12 ls []) := by
  obtain ⟨hx, hb, hml, hr, hown, hts, hlk, hK⟩ := id C0
  intro n
  induction n with
  | zero => intro x v0 v1 v2 v3 v4 v5 v6 v7 ho_v0 ho_v1 hf; exact of_no hf
  | succ n ih =>
    intro x v0 v1 v2 v3 v4 v5 v6 v7 ho_v0 ho_v1 hf H locs ls hP hS hl
    have hf : (if 100 ≤ v7 then ff_OU_firstGriefs_53 x v3 v4 v5 v6 else bnd (ff_OU_isByFacts x v0 v1 v2 v7) (fun r_4 x_5 => (if r_4 = 0 then ff_OU_firstGriefs_12 n x_5 v0 v1 v2 v3 v4 v5 v6 (v7 + 1) else (if v5 = (-1) then ff_OU_firstGriefs_12 n x_5 v0 v1 v2 v3 (v4 + 1) v7 v7 (v7 + 1) else ff_OU_firstGriefs_12 n x_5 v0 v1 v2 v3 (v4 + 1) v5 v7 (v7 + 1))))) = some (r, x') := hf
    refine lv_iload hx hb dd_OU_firstGriefs_12 (lv_at hl 7 rfl) ?_
    refine lv_bipush (v := 100) hx hb dd_OU_firstGriefs_14 (by decide) ?_
    refine lv_icmp_ge (tgt := 53) hx hb dd_OU_firstGriefs_16 (by decide) (fun h_1 => ?_) (fun h_1 => ?_)
    · have hf := (if_pos h_1).symm.trans hf
      exact ww_OU_firstGriefs_53 C0 hap   hf hP hS (lv_sub hl [3, 4, 5, 6] rfl)
    · have hf := (if_neg h_1).symm.trans hf
      refine lv_aload_n hx hb dd_OU_firstGriefs_19 rfl (lv_at hl 0 rfl) ?_
      refine lv_aload_n hx hb dd_OU_firstGriefs_20 rfl (lv_at hl 1 rfl) ?_
      refine lv_iload_n hx hb dd_OU_firstGriefs_21 rfl (lv_at hl 2 rfl) ?_
      refine lv_iload hx hb dd_OU_firstGriefs_22 (lv_at hl 7 rfl) ?_
      obtain ⟨r_4, x_5, c_6, hf⟩ := of_bnd hf
      refine cl_OU_80 C0 hap ho_v0 ho_v1 c_6 hP hS ⟨Nat.le_of_ble_eq_true rfl, Nat.le_of_ble_eq_true rfl⟩ hl.1 (Nat.le_of_ble_eq_true rfl) dd_OU_firstGriefs_24 ⟨Nat.le_refl _, Nat.le_refl _⟩ (fun H locs hP hS => ?_)
      refine lv_if_eq (tgt := 47) hx hb dd_OU_firstGriefs_27 (by decide) (fun h_7 => ?_) (fun h_7 => ?_)
      · have hf := (if_pos h_7).symm.trans hf
        refine lv_iinc (v := v7 + 1) (lv' := [(7, .int (v7 + 1)), (0, .ref (ad v0)), (1, .ref (ad v1)), (2, .int v2), (3, .int v3), (4, .int v4), (5, .int v5), (6, .int v6)]) hx hb dd_OU_firstGriefs_47 hl (k := 7) rfl rfl (by decide) rfl (fun ls hl => ?_)
        refine lv_goto (tgt := 12) hx hb dd_OU_firstGriefs_50 (by decide) ?_
        exact ih x_5 v0 v1 v2 v3 v4 v5 v6 (v7 + 1) ho_v0 ho_v1 hf _ _ _ hP hS (lv_sub hl [1, 2, 3, 4, 5, 6, 7, 0] rfl)
      · have hf := (if_neg h_7).symm.trans hf
        refine lv_iinc (v := v4 + 1) (lv' := [(4, .int (v4 + 1)), (0, .ref (ad v0)), (1, .ref (ad v1)), (2, .int v2), (3, .int v3), (5, .int v5), (6, .int v6), (7, .int v7)]) hx hb dd_OU_firstGriefs_30 hl (k := 4) rfl rfl (by decide) rfl (fun ls hl => ?_)
        refine lv_iload hx hb dd_OU_firstGriefs_33 (lv_at hl 7 rfl) ?_
        refine lv_istore (lv' := [(6, .int v7), (4, .int (v4 + 1)), (0, .ref (ad v0)), (1, .ref (ad v1)), (2, .int v2), (3, .int v3), (5, .int v5), (7, .int v7)]) hx hb dd_OU_firstGriefs_35 hl (by decide) rfl (fun ls hl => ?_)
        refine lv_iload hx hb dd_OU_firstGriefs_37 (lv_at hl 6 rfl) ?_
        refine lv_iconst (v := -1) hx hb dd_OU_firstGriefs_39 (by decide) ?_
        refine lv_icmp_ne (tgt := 47) hx hb dd_OU_firstGriefs_40 (by decide) (fun h_8 => ?_) (fun h_8 => ?_)
        · have hf := (if_neg h_8).symm.trans hf
          refine lv_iinc (v := v7 + 1) (lv' := [(7, .int (v7 + 1)), (6, .int v7), (4, .int (v4 + 1)), (0, .ref (ad v0)), (1, .ref (ad v1)), (2, .int v2), (3, .int v3), (5, .int v5)]) hx hb dd_OU_firstGriefs_47 hl (k := 7) rfl rfl (by decide) rfl (fun ls hl => ?_)
          refine lv_goto (tgt := 12) hx hb dd_OU_firstGriefs_50 (by decide) ?_
          exact ih x_5 v0 v1 v2 v3 (v4 + 1) v5 v7 (v7 + 1) ho_v0 ho_v1 hf _ _ _ hP hS (lv_sub hl [3, 4, 5, 6, 2, 7, 1, 0] rfl)
        · have hf := (if_pos h_8).symm.trans hf
          refine lv_iload hx hb dd_OU_firstGriefs_43 (lv_at hl 7 rfl) ?_
          refine lv_istore (lv' := [(5, .int v7), (6, .int v7), (4, .int (v4 + 1)), (0, .ref (ad v0)), (1, .ref (ad v1)), (2, .int v2), (3, .int v3), (7, .int v7)]) hx hb dd_OU_firstGriefs_45 hl (by decide) rfl (fun ls hl => ?_)
          refine lv_iinc (v := v7 + 1) (lv' := [(7, .int (v7 + 1)), (5, .int v7), (6, .int v7), (4, .int (v4 + 1)), (0, .ref (ad v0)), (1, .ref (ad v1)), (2, .int v2), (3, .int v3)]) hx hb dd_OU_firstGriefs_47 hl (k := 7) rfl rfl (by decide) rfl (fun ls hl => ?_)
          refine lv_goto (tgt := 12) hx hb dd_OU_firstGriefs_50 (by decide) ?_
          exact ih x_5 v0 v1 v2 v3 (v4 + 1) v7 v7 (v7 + 1) ho_v0 ho_v1 hf _ _ _ hP hS (lv_sub hl [4, 5, 6, 7, 3, 1, 2, 0] rfl)
set_option maxHeartbeats 4000000 in
set_option maxRecDepth 100000 in
theorem ww_OU_firstGriefs {p : Program} {l : Launch} {e : Env} {s : State} {m : MethodId} {args : Array Value} {below : List Frame} {meth : Method} {c : Code} {E : Ev} {A : Nat → Prop} {ad : Nat → Nat} {r : Int32} {x' : St} (C0 : Cx E A ROU bb_OU_firstGriefs 8 (some .int) p s m args meth c) (hap : Ap ad ixC A)  {x : St} {v0 : Nat} {v1 : Nat} {v2 : Int32} {v3 : Int32} (ho_v0 : isO ixC v0 2) (ho_v1 : isO ixC v1 1) (hf : ff_OU_firstGriefs x v0 v1 v2 v3 = some (r, x')) {H : Heap} {locs : List Loc} {ls : Array Slot} (hP : Wd E ad ixC x H) (hS : va_S A s.heap H locs) (hl : lv_has ls 8 [(0, .ref (ad v0)), (1, .ref (ad v1)), (2, .int v2), (3, .int v3)]) : W p l e rm_OU_firstGriefs s m args below meth c H locs 0 0 (MQ below (QX E ad ixC A (some (.int r)) x') args s 0 0 A) (F0 m 0 ls []) := by
  obtain ⟨hx, hb, hml, hr, hown, hts, hlk, hK⟩ := id C0
  have hf : ff_OU_firstGriefs_12 FU x v0 v1 v2 v3 0 (-1) (-1) 0 = some (r, x') := hf
  refine lv_iconst (v := 0) hx hb dd_OU_firstGriefs_0 (by decide) ?_
  refine lv_istore (lv' := [(4, .int 0), (0, .ref (ad v0)), (1, .ref (ad v1)), (2, .int v2), (3, .int v3)]) hx hb dd_OU_firstGriefs_1 hl (by decide) rfl (fun ls hl => ?_)
  refine lv_iconst (v := -1) hx hb dd_OU_firstGriefs_3 (by decide) ?_
  refine lv_istore (lv' := [(5, .int (-1)), (4, .int 0), (0, .ref (ad v0)), (1, .ref (ad v1)), (2, .int v2), (3, .int v3)]) hx hb dd_OU_firstGriefs_4 hl (by decide) rfl (fun ls hl => ?_)
  refine lv_iconst (v := -1) hx hb dd_OU_firstGriefs_6 (by decide) ?_
  refine lv_istore (lv' := [(6, .int (-1)), (5, .int (-1)), (4, .int 0), (0, .ref (ad v0)), (1, .ref (ad v1)), (2, .int v2), (3, .int v3)]) hx hb dd_OU_firstGriefs_7 hl (by decide) rfl (fun ls hl => ?_)
  refine lv_iconst (v := 0) hx hb dd_OU_firstGriefs_9 (by decide) ?_
  refine lv_istore (lv' := [(7, .int 0), (6, .int (-1)), (5, .int (-1)), (4, .int 0), (0, .ref (ad v0)), (1, .ref (ad v1)), (2, .int v2), (3, .int v3)]) hx hb dd_OU_firstGriefs_10 hl (by decide) rfl (fun ls hl => ?_)
  exact ww_OU_firstGriefs_12 C0 hap  FU x v0 v1 v2 v3 0 (-1) (-1) 0 ho_v0 ho_v1 hf _ _ _ hP hS (lv_sub hl [4, 5, 6, 7, 3, 2, 1, 0] rfl)
theorem cc_OU_firstGriefs {l : Launch} {E : Ev} {A : Nat → Prop} {ad : Nat → Nat} (hap : Ap ad ixC A) {x x' : St} {v0 : Nat} {v1 : Nat} {v2 : Int32} {v3 : Int32} {r : Int32} (ho_v0 : isO ixC v0 2) (ho_v1 : isO ixC v1 1) (hf : ff_OU_firstGriefs x v0 v1 v2 v3 = some (r, x')) : Met l yy_OU_firstGriefs (Cond.code yy_OU_firstGriefs bb_OU_firstGriefs 8 (some .int) :: gtb) rm_OU_firstGriefs (va_Pc [.ref (ad v0), .ref (ad v1), .int v2, .int v3] (PB E A ad ixC x)) (QX E ad ixC A (some (.int r)) x') 0 0 A := by
  exact enter (by decide) (Nat.le_of_ble_eq_true rfl) (fun p e s m below meth c ls C0 hP hS hl => ww_OU_firstGriefs C0 hap ho_v0 ho_v1 hf hP hS hl)
theorem cl_OU_129 {p : Program} {l : Launch} {e : Env} {R : Room} {s : State} {m : MethodId} {args : Array Value} {below : List Frame} {meth : Method} {c : Code} {H : Heap} {locs : List Loc} {cells slots : Nat} {Q : State → Prop} {cc : ByteArray} {pc : Nat} {ls : Array Slot} {rest : List Value} {E : Ev} {A : Nat → Prop} {ad : Nat → Nat} {nL : Nat} {rt : Option FieldType} (C0 : Cx E A ROU cc nL rt p s m args meth c) (hap : Ap ad ixC A) {x x' : St} {v0 : Nat} {v1 : Int32} {r : Option Nat} (ho_v0 : isO ixC v0 4) (hc : ff_SH_griefsOf x v0 v1 = some (r, x')) (hP : Wd E ad ixC x H) (hS : va_S A s.heap H locs) (hR : rm_SH_griefsOf.frames + 1 ≤ R.frames ∧ 8 + (2 + 11) + rm_SH_griefsOf.locals ≤ R.locals) (hls : ls.size = nL) (hroom : (rest.map fun v => v.category).sum ≤ 8) (hdg : decode cc pc = .ok (.invokevirtual 129, 3)) (hf : cells ≤ R.cells ∧ slots ≤ R.slots) (kk : ∀ H1 locs1, Wd E ad ixC x' H1 → va_S A s.heap H1 locs1 → W p l e R s m args below meth c H1 locs1 cells slots Q (F0 m (pc + 3) ls (va_re ad r :: rest))) : W p l e R s m args below meth c H locs cells slots Q (F0 m pc ls (.int v1 :: .ref (ad v0) :: rest)) :=
  rcV (n := 1) C0 (cc_SH_griefsOf hap ho_v0 hc) hP hS ho_v0 vcl_4 (by decide) gw_code_SH_griefsOf gw_m_OU_129 gw_inst_SH_griefsOf gw_sel_SH_griefsOf gw_ini_SH rfl rfl (by decide +kernel) rfl hR hls rfl hroom hdg hf (fun H1 locs1 a _ _ b => kk H1 locs1 a b)
abbrev rm_OU_griefsWithout : Room := { frames := 2, cells := 0, slots := 0, locals := 42 }
theorem dd_OU_griefsWithout_0 : decode bb_OU_griefsWithout 0 = .ok (.iload_n 3, 1) := by decide +kernel
theorem dd_OU_griefsWithout_1 : decode bb_OU_griefsWithout 1 = .ok (.iload_n 2, 1) := by decide +kernel
theorem dd_OU_griefsWithout_2 : decode bb_OU_griefsWithout 2 = .ok (.if_icmp .ne 10, 3) := by decide +kernel
theorem dd_OU_griefsWithout_5 : decode bb_OU_griefsWithout 5 = .ok (.aload_n 0, 1) := by decide +kernel
theorem dd_OU_griefsWithout_6 : decode bb_OU_griefsWithout 6 = .ok (.getfield 9, 3) := by decide +kernel
theorem dd_OU_griefsWithout_9 : decode bb_OU_griefsWithout 9 = .ok (.goto 8, 3) := by decide +kernel
theorem dd_OU_griefsWithout_12 : decode bb_OU_griefsWithout 12 = .ok (.aload_n 1, 1) := by decide +kernel
theorem dd_OU_griefsWithout_13 : decode bb_OU_griefsWithout 13 = .ok (.iload_n 3, 1) := by decide +kernel
theorem dd_OU_griefsWithout_14 : decode bb_OU_griefsWithout 14 = .ok (.invokevirtual 129, 3) := by decide +kernel
theorem dd_OU_griefsWithout_17 : decode bb_OU_griefsWithout 17 = .ok (.areturn, 1) := by decide +kernel
def ff_OU_griefsWithout  (x : St) (v0 : Nat) (v1 : Nat) (v2 : Int32) (v3 : Int32) : Option (Option Nat × St) := (if v3 = v2 then some ((some (rf v0 0)), x) else bnd (ff_SH_griefsOf x v1 v3) (fun r_2 x_3 => some (r_2, x_3)))
set_option maxHeartbeats 4000000 in
set_option maxRecDepth 100000 in
theorem ww_OU_griefsWithout {p : Program} {l : Launch} {e : Env} {s : State} {m : MethodId} {args : Array Value} {below : List Frame} {meth : Method} {c : Code} {E : Ev} {A : Nat → Prop} {ad : Nat → Nat} {r : Option Nat} {x' : St} (C0 : Cx E A ROU bb_OU_griefsWithout 4 (some (.array .int)) p s m args meth c) (hap : Ap ad ixC A)  {x : St} {v0 : Nat} {v1 : Nat} {v2 : Int32} {v3 : Int32} (ho_v0 : isO ixC v0 2) (ho_v1 : isO ixC v1 4) (hf : ff_OU_griefsWithout x v0 v1 v2 v3 = some (r, x')) {H : Heap} {locs : List Loc} {ls : Array Slot} (hP : Wd E ad ixC x H) (hS : va_S A s.heap H locs) (hl : lv_has ls 4 [(0, .ref (ad v0)), (1, .ref (ad v1)), (2, .int v2), (3, .int v3)]) : W p l e rm_OU_griefsWithout s m args below meth c H locs 0 0 (MQ below (QX E ad ixC A (some (va_re ad r)) x') args s 0 0 A) (F0 m 0 ls []) := by
  obtain ⟨hx, hb, hml, hr, hown, hts, hlk, hK⟩ := id C0
  have hf : (if v3 = v2 then some ((some (rf v0 0)), x) else bnd (ff_SH_griefsOf x v1 v3) (fun r_2 x_3 => some (r_2, x_3))) = some (r, x') := hf
  refine lv_iload_n hx hb dd_OU_griefsWithout_0 rfl (lv_at hl 3 rfl) ?_
  refine lv_iload_n hx hb dd_OU_griefsWithout_1 rfl (lv_at hl 2 rfl) ?_
  refine lv_icmp_ne (tgt := 12) hx hb dd_OU_griefsWithout_2 (by decide) (fun h_1 => ?_) (fun h_1 => ?_)
  · have hf := (if_neg h_1).symm.trans hf
    refine lv_aload_n hx hb dd_OU_griefsWithout_12 rfl (lv_at hl 1 rfl) ?_
    refine lv_iload_n hx hb dd_OU_griefsWithout_13 rfl (lv_at hl 3 rfl) ?_
    obtain ⟨r_2, x_3, c_4, hf⟩ := of_bnd hf
    refine cl_OU_129 C0 hap ho_v1 c_4 hP hS ⟨Nat.le_of_ble_eq_true rfl, Nat.le_of_ble_eq_true rfl⟩ hl.1 (Nat.le_of_ble_eq_true rfl) dd_OU_griefsWithout_14 ⟨Nat.le_refl _, Nat.le_refl _⟩ (fun H locs hP hS => ?_)
    exact rrQ (v := r_2) C0 hP hS dd_OU_griefsWithout_17 hf
  · have hf := (if_pos h_1).symm.trans hf
    refine lv_aload_n hx hb dd_OU_griefsWithout_5 rfl (lv_at hl 0 rfl) ?_
    refine gf_OU_9 C0 hP ho_v0 dd_OU_griefsWithout_6 ?_
    refine lv_goto (tgt := 17) hx hb dd_OU_griefsWithout_9 (by decide) ?_
    exact rrQ (v := (some (rf v0 0))) C0 hP hS dd_OU_griefsWithout_17 hf
theorem cc_OU_griefsWithout {l : Launch} {E : Ev} {A : Nat → Prop} {ad : Nat → Nat} (hap : Ap ad ixC A) {x x' : St} {v0 : Nat} {v1 : Nat} {v2 : Int32} {v3 : Int32} {r : Option Nat} (ho_v0 : isO ixC v0 2) (ho_v1 : isO ixC v1 4) (hf : ff_OU_griefsWithout x v0 v1 v2 v3 = some (r, x')) : Met l yy_OU_griefsWithout (Cond.code yy_OU_griefsWithout bb_OU_griefsWithout 4 (some (.array .int)) :: gtb) rm_OU_griefsWithout (va_Pc [.ref (ad v0), .ref (ad v1), .int v2, .int v3] (PB E A ad ixC x)) (QX E ad ixC A (some (va_re ad r)) x') 0 0 A := by
  exact enter (by decide) (Nat.le_of_ble_eq_true rfl) (fun p e s m below meth c ls C0 hP hS hl => ww_OU_griefsWithout C0 hap ho_v0 ho_v1 hf hP hS hl)
theorem qq_OU_griefsWithout {x x' : St} {v0 v1 : Nat} {v2 v3 : Int32} {r : Option Nat} (ho_v0 : isO ixC v0 2) (ho_v1 : isO ixC v1 4) (hf : ff_OU_griefsWithout x v0 v1 v2 v3 = some (r, x')) : ∀ q, r = some q → isO ixC q 20 := by
  by_cases h : v3 = v2
  · have hf := (if_pos h).symm.trans hf
    obtain ⟨rfl, -⟩ := of_ret hf
    intro q h; cases h
    exact tp_2_0 ho_v0
  · have hf := (if_neg h).symm.trans hf
    obtain ⟨r1, x1, h1, hf⟩ := of_bnd hf
    obtain ⟨rfl, -⟩ := of_ret hf
    exact qq_SH_griefsOf ho_v1 h1
theorem cl_OU_106 {p : Program} {l : Launch} {e : Env} {R : Room} {s : State} {m : MethodId} {args : Array Value} {below : List Frame} {meth : Method} {c : Code} {H : Heap} {locs : List Loc} {cells slots : Nat} {Q : State → Prop} {cc : ByteArray} {pc : Nat} {ls : Array Slot} {rest : List Value} {E : Ev} {A : Nat → Prop} {ad : Nat → Nat} {nL : Nat} {rt : Option FieldType} (C0 : Cx E A ROU cc nL rt p s m args meth c) (hap : Ap ad ixC A) {x x' : St} {v0 : Nat} {v1 : Nat} {v2 : Int32} {v3 : Int32} {r : Unit} (ho_v0 : isO ixC v0 4) (ho_v1 : isO ixC v1 20) (hc : ff_SH_fillGriefs x v0 v1 v2 v3 = some (r, x')) (hP : Wd E ad ixC x H) (hS : va_S A s.heap H locs) (hR : rm_SH_fillGriefs.frames + 1 ≤ R.frames ∧ 8 + (8 + 11) + rm_SH_fillGriefs.locals ≤ R.locals) (hls : ls.size = nL) (hroom : (rest.map fun v => v.category).sum ≤ 8) (hdg : decode cc pc = .ok (.invokevirtual 106, 3)) (hf : cells ≤ R.cells ∧ slots ≤ R.slots) (kk : ∀ H1 locs1, Wd E ad ixC x' H1 → va_S A s.heap H1 locs1 → W p l e R s m args below meth c H1 locs1 cells slots Q (F0 m (pc + 3) ls (rest))) : W p l e R s m args below meth c H locs cells slots Q (F0 m pc ls (.int v3 :: .int v2 :: .ref (ad v1) :: .ref (ad v0) :: rest)) :=
  rcV (n := 3) C0 (cc_SH_fillGriefs hap ho_v0 ho_v1 hc) hP hS ho_v0 vcl_4 (by decide) gw_code_SH_fillGriefs gw_m_OU_106 gw_inst_SH_fillGriefs gw_sel_SH_fillGriefs gw_ini_SH rfl rfl (by decide +kernel) rfl hR hls rfl hroom hdg hf (fun H1 locs1 a _ _ b => kk H1 locs1 a b)
theorem cl_OU_112 {p : Program} {l : Launch} {e : Env} {R : Room} {s : State} {m : MethodId} {args : Array Value} {below : List Frame} {meth : Method} {c : Code} {H : Heap} {locs : List Loc} {cells slots : Nat} {Q : State → Prop} {cc : ByteArray} {pc : Nat} {ls : Array Slot} {rest : List Value} {E : Ev} {A : Nat → Prop} {ad : Nat → Nat} {nL : Nat} {rt : Option FieldType} (C0 : Cx E A ROU cc nL rt p s m args meth c) (hap : Ap ad ixC A) {x x' : St} {v0 : Nat} {v1 : Int32} {r : Int32} (ho_v0 : isO ixC v0 4) (hc : ff_SH_boiledOn x v0 v1 = some (r, x')) (hP : Wd E ad ixC x H) (hS : va_S A s.heap H locs) (hR : rm_SH_boiledOn.frames + 1 ≤ R.frames ∧ 8 + (2 + 11) + rm_SH_boiledOn.locals ≤ R.locals) (hls : ls.size = nL) (hroom : (rest.map fun v => v.category).sum ≤ 8) (hdg : decode cc pc = .ok (.invokevirtual 112, 3)) (hf : cells ≤ R.cells ∧ slots ≤ R.slots) (kk : ∀ H1 locs1, Wd E ad ixC x' H1 → va_S A s.heap H1 locs1 → W p l e R s m args below meth c H1 locs1 cells slots Q (F0 m (pc + 3) ls (.int r :: rest))) : W p l e R s m args below meth c H locs cells slots Q (F0 m pc ls (.int v1 :: .ref (ad v0) :: rest)) :=
  rcV (n := 1) C0 (cc_SH_boiledOn hap ho_v0 hc) hP hS ho_v0 vcl_4 (by decide) gw_code_SH_boiledOn gw_m_OU_112 gw_inst_SH_boiledOn gw_sel_SH_boiledOn gw_ini_SH rfl rfl (by decide +kernel) rfl hR hls rfl hroom hdg hf (fun H1 locs1 a _ _ b => kk H1 locs1 a b)
theorem cl_OU_116 {p : Program} {l : Launch} {e : Env} {R : Room} {s : State} {m : MethodId} {args : Array Value} {below : List Frame} {meth : Method} {c : Code} {H : Heap} {locs : List Loc} {cells slots : Nat} {Q : State → Prop} {cc : ByteArray} {pc : Nat} {ls : Array Slot} {rest : List Value} {E : Ev} {A : Nat → Prop} {ad : Nat → Nat} {nL : Nat} {rt : Option FieldType} (C0 : Cx E A ROU cc nL rt p s m args meth c) (hap : Ap ad ixC A) {x x' : St} {v0 : Nat} {v1 : Int32} {r : Int32} (ho_v0 : isO ixC v0 4) (hc : ff_SH_firstBoiler x v0 v1 = some (r, x')) (hP : Wd E ad ixC x H) (hS : va_S A s.heap H locs) (hR : rm_SH_firstBoiler.frames + 1 ≤ R.frames ∧ 8 + (2 + 11) + rm_SH_firstBoiler.locals ≤ R.locals) (hls : ls.size = nL) (hroom : (rest.map fun v => v.category).sum ≤ 8) (hdg : decode cc pc = .ok (.invokevirtual 116, 3)) (hf : cells ≤ R.cells ∧ slots ≤ R.slots) (kk : ∀ H1 locs1, Wd E ad ixC x' H1 → va_S A s.heap H1 locs1 → W p l e R s m args below meth c H1 locs1 cells slots Q (F0 m (pc + 3) ls (.int r :: rest))) : W p l e R s m args below meth c H locs cells slots Q (F0 m pc ls (.int v1 :: .ref (ad v0) :: rest)) :=
  rcV (n := 1) C0 (cc_SH_firstBoiler hap ho_v0 hc) hP hS ho_v0 vcl_4 (by decide) gw_code_SH_firstBoiler gw_m_OU_116 gw_inst_SH_firstBoiler gw_sel_SH_firstBoiler gw_ini_SH rfl rfl (by decide +kernel) rfl hR hls rfl hroom hdg hf (fun H1 locs1 a _ _ b => kk H1 locs1 a b)
theorem cl_OU_119 {p : Program} {l : Launch} {e : Env} {R : Room} {s : State} {m : MethodId} {args : Array Value} {below : List Frame} {meth : Method} {c : Code} {H : Heap} {locs : List Loc} {cells slots : Nat} {Q : State → Prop} {cc : ByteArray} {pc : Nat} {ls : Array Slot} {rest : List Value} {E : Ev} {A : Nat → Prop} {ad : Nat → Nat} {nL : Nat} {rt : Option FieldType} (C0 : Cx E A ROU cc nL rt p s m args meth c) (hap : Ap ad ixC A) {x x' : St} {v0 : Nat} {v1 : Nat} {v2 : Int32} {v3 : Int32} {r : Option Nat} (ho_v0 : isO ixC v0 2) (ho_v1 : isO ixC v1 4) (hc : ff_OU_griefsWithout x v0 v1 v2 v3 = some (r, x')) (hP : Wd E ad ixC x H) (hS : va_S A s.heap H locs) (hR : rm_OU_griefsWithout.frames + 1 ≤ R.frames ∧ 8 + (4 + 11) + rm_OU_griefsWithout.locals ≤ R.locals) (hls : ls.size = nL) (hroom : (rest.map fun v => v.category).sum ≤ 8) (hdg : decode cc pc = .ok (.invokevirtual 119, 3)) (hf : cells ≤ R.cells ∧ slots ≤ R.slots) (kk : ∀ H1 locs1, Wd E ad ixC x' H1 → va_S A s.heap H1 locs1 → W p l e R s m args below meth c H1 locs1 cells slots Q (F0 m (pc + 3) ls (va_re ad r :: rest))) : W p l e R s m args below meth c H locs cells slots Q (F0 m pc ls (.int v3 :: .int v2 :: .ref (ad v1) :: .ref (ad v0) :: rest)) :=
  rcV (n := 3) C0 (cc_OU_griefsWithout hap ho_v0 ho_v1 hc) hP hS ho_v0 vcl_2 (by decide) gw_code_OU_griefsWithout gw_m_OU_119 gw_inst_OU_griefsWithout gw_sel_OU_griefsWithout gw_ini_OU rfl rfl (by decide +kernel) rfl hR hls rfl hroom hdg hf (fun H1 locs1 a _ _ b => kk H1 locs1 a b)
theorem cl_OU_123 {p : Program} {l : Launch} {e : Env} {R : Room} {s : State} {m : MethodId} {args : Array Value} {below : List Frame} {meth : Method} {c : Code} {H : Heap} {locs : List Loc} {cells slots : Nat} {Q : State → Prop} {cc : ByteArray} {pc : Nat} {ls : Array Slot} {rest : List Value} {E : Ev} {A : Nat → Prop} {ad : Nat → Nat} {nL : Nat} {rt : Option FieldType} (C0 : Cx E A ROU cc nL rt p s m args meth c) (hap : Ap ad ixC A) {x x' : St} {v0 : Nat} {v1 : Int32} {r : Int32} (ho_v0 : isO ixC v0 4) (hc : ff_SH_secondBoiler x v0 v1 = some (r, x')) (hP : Wd E ad ixC x H) (hS : va_S A s.heap H locs) (hR : rm_SH_secondBoiler.frames + 1 ≤ R.frames ∧ 8 + (2 + 11) + rm_SH_secondBoiler.locals ≤ R.locals) (hls : ls.size = nL) (hroom : (rest.map fun v => v.category).sum ≤ 8) (hdg : decode cc pc = .ok (.invokevirtual 123, 3)) (hf : cells ≤ R.cells ∧ slots ≤ R.slots) (kk : ∀ H1 locs1, Wd E ad ixC x' H1 → va_S A s.heap H1 locs1 → W p l e R s m args below meth c H1 locs1 cells slots Q (F0 m (pc + 3) ls (.int r :: rest))) : W p l e R s m args below meth c H locs cells slots Q (F0 m pc ls (.int v1 :: .ref (ad v0) :: rest)) :=
  rcV (n := 1) C0 (cc_SH_secondBoiler hap ho_v0 hc) hP hS ho_v0 vcl_4 (by decide) gw_code_SH_secondBoiler gw_m_OU_123 gw_inst_SH_secondBoiler gw_sel_SH_secondBoiler gw_ini_SH rfl rfl (by decide +kernel) rfl hR hls rfl hroom hdg hf (fun H1 locs1 a _ _ b => kk H1 locs1 a b)
theorem cl_OU_126 {p : Program} {l : Launch} {e : Env} {R : Room} {s : State} {m : MethodId} {args : Array Value} {below : List Frame} {meth : Method} {c : Code} {H : Heap} {locs : List Loc} {cells slots : Nat} {Q : State → Prop} {cc : ByteArray} {pc : Nat} {ls : Array Slot} {rest : List Value} {E : Ev} {A : Nat → Prop} {ad : Nat → Nat} {nL : Nat} {rt : Option FieldType} (C0 : Cx E A ROU cc nL rt p s m args meth c) (hap : Ap ad ixC A) {x x' : St} {v0 : Nat} {v1 : Int32} {r : Int32} (ho_v0 : isO ixC v0 4) (hc : ff_SH_openingOf x v0 v1 = some (r, x')) (hP : Wd E ad ixC x H) (hS : va_S A s.heap H locs) (hR : rm_SH_openingOf.frames + 1 ≤ R.frames ∧ 8 + (5 + 11) + rm_SH_openingOf.locals ≤ R.locals) (hls : ls.size = nL) (hroom : (rest.map fun v => v.category).sum ≤ 8) (hdg : decode cc pc = .ok (.invokevirtual 126, 3)) (hf : cells ≤ R.cells ∧ slots ≤ R.slots) (kk : ∀ H1 locs1, Wd E ad ixC x' H1 → va_S A s.heap H1 locs1 → W p l e R s m args below meth c H1 locs1 cells slots Q (F0 m (pc + 3) ls (.int r :: rest))) : W p l e R s m args below meth c H locs cells slots Q (F0 m pc ls (.int v1 :: .ref (ad v0) :: rest)) :=
  rcV (n := 1) C0 (cc_SH_openingOf hap ho_v0 hc) hP hS ho_v0 vcl_4 (by decide) gw_code_SH_openingOf gw_m_OU_126 gw_inst_SH_openingOf gw_sel_SH_openingOf gw_ini_SH rfl rfl (by decide +kernel) rfl hR hls rfl hroom hdg hf (fun H1 locs1 a _ _ b => kk H1 locs1 a b)
abbrev rm_OU_harmOf : Room := { frames := 4, cells := 0, slots := 0, locals := 93 }
theorem dd_OU_harmOf_0 : decode bb_OU_harmOf 0 = .ok (.aload_n 1, 1) := by decide +kernel
theorem dd_OU_harmOf_1 : decode bb_OU_harmOf 1 = .ok (.getfield 102, 3) := by decide +kernel
theorem dd_OU_harmOf_4 : decode bb_OU_harmOf 4 = .ok (.iload_n 2, 1) := by decide +kernel
theorem dd_OU_harmOf_5 : decode bb_OU_harmOf 5 = .ok (.iconst 2, 1) := by decide +kernel
theorem dd_OU_harmOf_6 : decode bb_OU_harmOf 6 = .ok (.invokevirtual 95, 3) := by decide +kernel
theorem dd_OU_harmOf_9 : decode bb_OU_harmOf 9 = .ok (.istore_n 3, 1) := by decide +kernel
theorem dd_OU_harmOf_10 : decode bb_OU_harmOf 10 = .ok (.aload_n 1, 1) := by decide +kernel
theorem dd_OU_harmOf_11 : decode bb_OU_harmOf 11 = .ok (.aload_n 0, 1) := by decide +kernel
theorem dd_OU_harmOf_12 : decode bb_OU_harmOf 12 = .ok (.getfield 9, 3) := by decide +kernel
theorem dd_OU_harmOf_15 : decode bb_OU_harmOf 15 = .ok (.iload_n 3, 1) := by decide +kernel
theorem dd_OU_harmOf_16 : decode bb_OU_harmOf 16 = .ok (.iload_n 2, 1) := by decide +kernel
theorem dd_OU_harmOf_17 : decode bb_OU_harmOf 17 = .ok (.invokevirtual 106, 3) := by decide +kernel
theorem dd_OU_harmOf_20 : decode bb_OU_harmOf 20 = .ok (.iconst 0, 1) := by decide +kernel
theorem dd_OU_harmOf_21 : decode bb_OU_harmOf 21 = .ok (.istore 4, 2) := by decide +kernel
theorem dd_OU_harmOf_23 : decode bb_OU_harmOf 23 = .ok (.iconst 0, 1) := by decide +kernel
theorem dd_OU_harmOf_24 : decode bb_OU_harmOf 24 = .ok (.istore 5, 2) := by decide +kernel
theorem dd_OU_harmOf_26 : decode bb_OU_harmOf 26 = .ok (.iload 5, 2) := by decide +kernel
theorem dd_OU_harmOf_28 : decode bb_OU_harmOf 28 = .ok (.aload_n 1, 1) := by decide +kernel
theorem dd_OU_harmOf_29 : decode bb_OU_harmOf 29 = .ok (.getfield 109, 3) := by decide +kernel
theorem dd_OU_harmOf_32 : decode bb_OU_harmOf 32 = .ok (.getfield 90, 3) := by decide +kernel
theorem dd_OU_harmOf_35 : decode bb_OU_harmOf 35 = .ok (.if_icmp .ge 105, 3) := by decide +kernel
theorem dd_OU_harmOf_38 : decode bb_OU_harmOf 38 = .ok (.aload_n 1, 1) := by decide +kernel
theorem dd_OU_harmOf_39 : decode bb_OU_harmOf 39 = .ok (.iload 5, 2) := by decide +kernel
theorem dd_OU_harmOf_41 : decode bb_OU_harmOf 41 = .ok (.invokevirtual 112, 3) := by decide +kernel
theorem dd_OU_harmOf_44 : decode bb_OU_harmOf 44 = .ok (.istore 6, 2) := by decide +kernel
theorem dd_OU_harmOf_46 : decode bb_OU_harmOf 46 = .ok (.iload 6, 2) := by decide +kernel
theorem dd_OU_harmOf_48 : decode bb_OU_harmOf 48 = .ok (.iconst (-1), 1) := by decide +kernel
theorem dd_OU_harmOf_49 : decode bb_OU_harmOf 49 = .ok (.if_icmp .eq 85, 3) := by decide +kernel
theorem dd_OU_harmOf_52 : decode bb_OU_harmOf 52 = .ok (.aload_n 0, 1) := by decide +kernel
theorem dd_OU_harmOf_53 : decode bb_OU_harmOf 53 = .ok (.aload_n 1, 1) := by decide +kernel
theorem dd_OU_harmOf_54 : decode bb_OU_harmOf 54 = .ok (.iload_n 3, 1) := by decide +kernel
theorem dd_OU_harmOf_55 : decode bb_OU_harmOf 55 = .ok (.aload_n 1, 1) := by decide +kernel
theorem dd_OU_harmOf_56 : decode bb_OU_harmOf 56 = .ok (.iload 5, 2) := by decide +kernel
theorem dd_OU_harmOf_58 : decode bb_OU_harmOf 58 = .ok (.invokevirtual 116, 3) := by decide +kernel
theorem dd_OU_harmOf_61 : decode bb_OU_harmOf 61 = .ok (.invokevirtual 119, 3) := by decide +kernel
theorem dd_OU_harmOf_64 : decode bb_OU_harmOf 64 = .ok (.astore 7, 2) := by decide +kernel
theorem dd_OU_harmOf_66 : decode bb_OU_harmOf 66 = .ok (.aload_n 0, 1) := by decide +kernel
theorem dd_OU_harmOf_67 : decode bb_OU_harmOf 67 = .ok (.aload_n 1, 1) := by decide +kernel
theorem dd_OU_harmOf_68 : decode bb_OU_harmOf 68 = .ok (.iload_n 3, 1) := by decide +kernel
theorem dd_OU_harmOf_69 : decode bb_OU_harmOf 69 = .ok (.aload_n 1, 1) := by decide +kernel
theorem dd_OU_harmOf_70 : decode bb_OU_harmOf 70 = .ok (.iload 5, 2) := by decide +kernel
theorem dd_OU_harmOf_72 : decode bb_OU_harmOf 72 = .ok (.invokevirtual 123, 3) := by decide +kernel
theorem dd_OU_harmOf_75 : decode bb_OU_harmOf 75 = .ok (.invokevirtual 119, 3) := by decide +kernel
theorem dd_OU_harmOf_78 : decode bb_OU_harmOf 78 = .ok (.astore 8, 2) := by decide +kernel
theorem dd_OU_harmOf_80 : decode bb_OU_harmOf 80 = .ok (.aload 7, 2) := by decide +kernel
theorem dd_OU_harmOf_82 : decode bb_OU_harmOf 82 = .ok (.aload 8, 2) := by decide +kernel
theorem dd_OU_harmOf_84 : decode bb_OU_harmOf 84 = .ok (.aload_n 1, 1) := by decide +kernel
theorem dd_OU_harmOf_85 : decode bb_OU_harmOf 85 = .ok (.getfield 109, 3) := by decide +kernel
theorem dd_OU_harmOf_88 : decode bb_OU_harmOf 88 = .ok (.iload 5, 2) := by decide +kernel
theorem dd_OU_harmOf_90 : decode bb_OU_harmOf 90 = .ok (.iconst 0, 1) := by decide +kernel
theorem dd_OU_harmOf_91 : decode bb_OU_harmOf 91 = .ok (.invokevirtual 95, 3) := by decide +kernel
theorem dd_OU_harmOf_94 : decode bb_OU_harmOf 94 = .ok (.iload 6, 2) := by decide +kernel
theorem dd_OU_harmOf_96 : decode bb_OU_harmOf 96 = .ok (.bipush 99, 2) := by decide +kernel
theorem dd_OU_harmOf_98 : decode bb_OU_harmOf 98 = .ok (.invokestatic 98, 3) := by decide +kernel
theorem dd_OU_harmOf_101 : decode bb_OU_harmOf 101 = .ok (.istore 9, 2) := by decide +kernel
theorem dd_OU_harmOf_103 : decode bb_OU_harmOf 103 = .ok (.aload_n 1, 1) := by decide +kernel
theorem dd_OU_harmOf_104 : decode bb_OU_harmOf 104 = .ok (.iload 5, 2) := by decide +kernel
theorem dd_OU_harmOf_106 : decode bb_OU_harmOf 106 = .ok (.invokevirtual 126, 3) := by decide +kernel
theorem dd_OU_harmOf_109 : decode bb_OU_harmOf 109 = .ok (.istore 10, 2) := by decide +kernel
theorem dd_OU_harmOf_111 : decode bb_OU_harmOf 111 = .ok (.iload 9, 2) := by decide +kernel
theorem dd_OU_harmOf_113 : decode bb_OU_harmOf 113 = .ok (.iload 10, 2) := by decide +kernel
theorem dd_OU_harmOf_115 : decode bb_OU_harmOf 115 = .ok (.if_icmp .le 9, 3) := by decide +kernel
theorem dd_OU_harmOf_118 : decode bb_OU_harmOf 118 = .ok (.iinc 4 1, 3) := by decide +kernel
theorem dd_OU_harmOf_121 : decode bb_OU_harmOf 121 = .ok (.goto 13, 3) := by decide +kernel
theorem dd_OU_harmOf_124 : decode bb_OU_harmOf 124 = .ok (.iload 9, 2) := by decide +kernel
theorem dd_OU_harmOf_126 : decode bb_OU_harmOf 126 = .ok (.iload 10, 2) := by decide +kernel
theorem dd_OU_harmOf_128 : decode bb_OU_harmOf 128 = .ok (.if_icmp .ge 6, 3) := by decide +kernel
theorem dd_OU_harmOf_131 : decode bb_OU_harmOf 131 = .ok (.iinc 4 (-1), 3) := by decide +kernel
theorem dd_OU_harmOf_134 : decode bb_OU_harmOf 134 = .ok (.iinc 5 1, 3) := by decide +kernel
theorem dd_OU_harmOf_137 : decode bb_OU_harmOf 137 = .ok (.goto (-111), 3) := by decide +kernel
theorem dd_OU_harmOf_140 : decode bb_OU_harmOf 140 = .ok (.iload 4, 2) := by decide +kernel
theorem dd_OU_harmOf_142 : decode bb_OU_harmOf 142 = .ok (.ireturn, 1) := by decide +kernel
def ff_OU_harmOf_26  : Nat → St → Nat → Nat → Int32 → Int32 → Int32 → Option (Int32 × St)
  | 0, _, _, _, _, _, _ => none
  | n + 1, x, v0, v1, v3, v4, v5 => (if (gi x (rf v1 1) 3) ≤ v5 then some (v4, x) else bnd (ff_SH_boiledOn x v1 v5) (fun r_8 x_9 => (if r_8 = (-1) then ff_OU_harmOf_26 n x_9 v0 v1 v3 v4 (v5 + 1) else bnd (ff_SH_firstBoiler x_9 v1 v5) (fun r_12 x_13 => bnd (ff_OU_griefsWithout x_13 v0 v1 v3 r_12) (fun r_15 x_16 => bnd (ff_SH_secondBoiler x_16 v1 v5) (fun r_18 x_19 => bnd (ff_OU_griefsWithout x_19 v0 v1 v3 r_18) (fun r_21 x_22 => bnd (ff_LE_at x_22 (rf v1 1) v5 0) (fun r_24 x_25 => bnd (ff_SH_firstWeakDay x_25 r_15 r_21 r_24 r_8 99) (fun r_27 x_28 => bnd (ff_SH_openingOf x_28 v1 v5) (fun r_30 x_31 => (if r_27 ≤ r_30 then (if r_30 ≤ r_27 then ff_OU_harmOf_26 n x_31 v0 v1 v3 v4 (v5 + 1) else ff_OU_harmOf_26 n x_31 v0 v1 v3 (v4 + (-1)) (v5 + 1)) else ff_OU_harmOf_26 n x_31 v0 v1 v3 (v4 + 1) (v5 + 1))))))))))))
def ff_OU_harmOf  (x : St) (v0 : Nat) (v1 : Nat) (v2 : Int32) : Option (Int32 × St) := bnd (ff_LE_at x (rf v1 3) v2 2) (fun r_1 x_2 => bnd (ff_SH_fillGriefs x_2 v1 (rf v0 0) r_1 v2) (fun _ x_5 => ff_OU_harmOf_26 FU x_5 v0 v1 r_1 0 0))
set_option maxHeartbeats 4000000 in
set_option maxRecDepth 100000 in
theorem ww_OU_harmOf_26 {p : Program} {l : Launch} {e : Env} {s : State} {m : MethodId} {args : Array Value} {below : List Frame} {meth : Method} {c : Code} {E : Ev} {A : Nat → Prop} {ad : Nat → Nat} {r : Int32} {x' : St} (C0 : Cx E A ROU bb_OU_harmOf 11 (some .int) p s m args meth c) (hap : Ap ad ixC A)  : ∀ (n : Nat), ∀ (x : St) (v0 : Nat) (v1 : Nat) (v3 : Int32) (v4 : Int32) (v5 : Int32), (isO ixC v0 2) → (isO ixC v1 4) → ff_OU_harmOf_26 n x v0 v1 v3 v4 v5 = some (r, x') → ∀ (H : Heap) (locs : List Loc) (ls : Array Slot), Wd E ad ixC x H → va_S A s.heap H locs → lv_has ls 11 [(0, .ref (ad v0)), (1, .ref (ad v1)), (3, .int v3), (4, .int v4), (5, .int v5)] → W p l e rm_OU_harmOf s m args below meth c H locs 0 0 (MQ below (QX E ad ixC A (some (.int r)) x') args s 0 0 A) (F0 m 26 ls []) := by
  obtain ⟨hx, hb, hml, hr, hown, hts, hlk, hK⟩ := id C0
  intro n
  induction n with
  | zero => intro x v0 v1 v3 v4 v5 ho_v0 ho_v1 hf; exact of_no hf
  | succ n ih =>
    intro x v0 v1 v3 v4 v5 ho_v0 ho_v1 hf H locs ls hP hS hl
    have hf : (if (gi x (rf v1 1) 3) ≤ v5 then some (v4, x) else bnd (ff_SH_boiledOn x v1 v5) (fun r_8 x_9 => (if r_8 = (-1) then ff_OU_harmOf_26 n x_9 v0 v1 v3 v4 (v5 + 1) else bnd (ff_SH_firstBoiler x_9 v1 v5) (fun r_12 x_13 => bnd (ff_OU_griefsWithout x_13 v0 v1 v3 r_12) (fun r_15 x_16 => bnd (ff_SH_secondBoiler x_16 v1 v5) (fun r_18 x_19 => bnd (ff_OU_griefsWithout x_19 v0 v1 v3 r_18) (fun r_21 x_22 => bnd (ff_LE_at x_22 (rf v1 1) v5 0) (fun r_24 x_25 => bnd (ff_SH_firstWeakDay x_25 r_15 r_21 r_24 r_8 99) (fun r_27 x_28 => bnd (ff_SH_openingOf x_28 v1 v5) (fun r_30 x_31 => (if r_27 ≤ r_30 then (if r_30 ≤ r_27 then ff_OU_harmOf_26 n x_31 v0 v1 v3 v4 (v5 + 1) else ff_OU_harmOf_26 n x_31 v0 v1 v3 (v4 + (-1)) (v5 + 1)) else ff_OU_harmOf_26 n x_31 v0 v1 v3 (v4 + 1) (v5 + 1)))))))))))) = some (r, x') := hf
    refine lv_iload hx hb dd_OU_harmOf_26 (lv_at hl 4 rfl) ?_
    refine lv_aload_n hx hb dd_OU_harmOf_28 rfl (lv_at hl 1 rfl) ?_
    refine gf_OU_109 C0 hP ho_v1 dd_OU_harmOf_29 ?_
    refine gf_OU_90 C0 hP (tp_4_1 ho_v1) dd_OU_harmOf_32 ?_
    refine lv_icmp_ge (tgt := 140) hx hb dd_OU_harmOf_35 (by decide) (fun h_7 => ?_) (fun h_7 => ?_)
    · have hf := (if_pos h_7).symm.trans hf
      refine lv_iload hx hb dd_OU_harmOf_140 (lv_at hl 3 rfl) ?_
      exact rrI C0 hP hS dd_OU_harmOf_142 hf
    · have hf := (if_neg h_7).symm.trans hf
      refine lv_aload_n hx hb dd_OU_harmOf_38 rfl (lv_at hl 1 rfl) ?_
      refine lv_iload hx hb dd_OU_harmOf_39 (lv_at hl 4 rfl) ?_
      obtain ⟨r_8, x_9, c_10, hf⟩ := of_bnd hf
      refine cl_OU_112 C0 hap ho_v1 c_10 hP hS ⟨Nat.le_of_ble_eq_true rfl, Nat.le_of_ble_eq_true rfl⟩ hl.1 (Nat.le_of_ble_eq_true rfl) dd_OU_harmOf_41 ⟨Nat.le_refl _, Nat.le_refl _⟩ (fun H locs hP hS => ?_)
      refine lv_istore (lv' := [(6, .int r_8), (0, .ref (ad v0)), (1, .ref (ad v1)), (3, .int v3), (4, .int v4), (5, .int v5)]) hx hb dd_OU_harmOf_44 hl (by decide) rfl (fun ls hl => ?_)
      refine lv_iload hx hb dd_OU_harmOf_46 (lv_at hl 0 rfl) ?_
      refine lv_iconst (v := -1) hx hb dd_OU_harmOf_48 (by decide) ?_
      refine lv_icmp_eq (tgt := 134) hx hb dd_OU_harmOf_49 (by decide) (fun h_11 => ?_) (fun h_11 => ?_)
      · have hf := (if_pos h_11).symm.trans hf
        refine lv_iinc (v := v5 + 1) (lv' := [(5, .int (v5 + 1)), (6, .int r_8), (0, .ref (ad v0)), (1, .ref (ad v1)), (3, .int v3), (4, .int v4)]) hx hb dd_OU_harmOf_134 hl (k := 5) rfl rfl (by decide) rfl (fun ls hl => ?_)
        refine lv_goto (tgt := 26) hx hb dd_OU_harmOf_137 (by decide) ?_
        exact ih x_9 v0 v1 v3 v4 (v5 + 1) ho_v0 ho_v1 hf _ _ _ hP hS (lv_sub hl [2, 3, 4, 5, 0] rfl)
      · have hf := (if_neg h_11).symm.trans hf
        refine lv_aload_n hx hb dd_OU_harmOf_52 rfl (lv_at hl 1 rfl) ?_
        refine lv_aload_n hx hb dd_OU_harmOf_53 rfl (lv_at hl 2 rfl) ?_
        refine lv_iload_n hx hb dd_OU_harmOf_54 rfl (lv_at hl 3 rfl) ?_
        refine lv_aload_n hx hb dd_OU_harmOf_55 rfl (lv_at hl 2 rfl) ?_
        refine lv_iload hx hb dd_OU_harmOf_56 (lv_at hl 5 rfl) ?_
        obtain ⟨r_12, x_13, c_14, hf⟩ := of_bnd hf
        refine cl_OU_116 C0 hap ho_v1 c_14 hP hS ⟨Nat.le_of_ble_eq_true rfl, Nat.le_of_ble_eq_true rfl⟩ hl.1 (Nat.le_of_ble_eq_true rfl) dd_OU_harmOf_58 ⟨Nat.le_refl _, Nat.le_refl _⟩ (fun H locs hP hS => ?_)
        obtain ⟨r_15, x_16, c_17, hf⟩ := of_bnd hf
        refine cl_OU_119 C0 hap ho_v0 ho_v1 c_17 hP hS ⟨Nat.le_of_ble_eq_true rfl, Nat.le_of_ble_eq_true rfl⟩ hl.1 (Nat.le_of_ble_eq_true rfl) dd_OU_harmOf_61 ⟨Nat.le_refl _, Nat.le_refl _⟩ (fun H locs hP hS => ?_)
        refine rqS (lv' := [(7, va_re ad r_15), (6, .int r_8), (0, .ref (ad v0)), (1, .ref (ad v1)), (3, .int v3), (4, .int v4), (5, .int v5)]) hx hb dd_OU_harmOf_64 hl (by decide) rfl (fun ls hl => ?_)
        refine lv_aload_n hx hb dd_OU_harmOf_66 rfl (lv_at hl 2 rfl) ?_
        refine lv_aload_n hx hb dd_OU_harmOf_67 rfl (lv_at hl 3 rfl) ?_
        refine lv_iload_n hx hb dd_OU_harmOf_68 rfl (lv_at hl 4 rfl) ?_
        refine lv_aload_n hx hb dd_OU_harmOf_69 rfl (lv_at hl 3 rfl) ?_
        refine lv_iload hx hb dd_OU_harmOf_70 (lv_at hl 6 rfl) ?_
        obtain ⟨r_18, x_19, c_20, hf⟩ := of_bnd hf
        refine cl_OU_123 C0 hap ho_v1 c_20 hP hS ⟨Nat.le_of_ble_eq_true rfl, Nat.le_of_ble_eq_true rfl⟩ hl.1 (Nat.le_of_ble_eq_true rfl) dd_OU_harmOf_72 ⟨Nat.le_refl _, Nat.le_refl _⟩ (fun H locs hP hS => ?_)
        obtain ⟨r_21, x_22, c_23, hf⟩ := of_bnd hf
        refine cl_OU_119 C0 hap ho_v0 ho_v1 c_23 hP hS ⟨Nat.le_of_ble_eq_true rfl, Nat.le_of_ble_eq_true rfl⟩ hl.1 (Nat.le_of_ble_eq_true rfl) dd_OU_harmOf_75 ⟨Nat.le_refl _, Nat.le_refl _⟩ (fun H locs hP hS => ?_)
        refine rqS (lv' := [(8, va_re ad r_21), (7, va_re ad r_15), (6, .int r_8), (0, .ref (ad v0)), (1, .ref (ad v1)), (3, .int v3), (4, .int v4), (5, .int v5)]) hx hb dd_OU_harmOf_78 hl (by decide) (by simp only [List.filter_cons, List.filter_nil, cat_re]; rfl) (fun ls hl => ?_)
        refine raQ hx hb dd_OU_harmOf_80 (lv_at hl 1 rfl) ?_
        refine raQ hx hb dd_OU_harmOf_82 (lv_at hl 0 rfl) ?_
        refine lv_aload_n hx hb dd_OU_harmOf_84 rfl (lv_at hl 4 rfl) ?_
        refine gf_OU_109 C0 hP ho_v1 dd_OU_harmOf_85 ?_
        refine lv_iload hx hb dd_OU_harmOf_88 (lv_at hl 7 rfl) ?_
        refine lv_iconst (v := 0) hx hb dd_OU_harmOf_90 (by decide) ?_
        obtain ⟨r_24, x_25, c_26, hf⟩ := of_bnd hf
        refine cl_OU_95 C0 hap (tp_4_1 ho_v1) c_26 hP hS ⟨Nat.le_of_ble_eq_true rfl, Nat.le_of_ble_eq_true rfl⟩ hl.1 (by simp only [List.map_cons, List.map_nil, cat_re]; exact Nat.le_of_ble_eq_true rfl) dd_OU_harmOf_91 ⟨Nat.le_refl _, Nat.le_refl _⟩ (fun H locs hP hS => ?_)
        refine lv_iload hx hb dd_OU_harmOf_94 (lv_at hl 2 rfl) ?_
        refine lv_bipush (v := 99) hx hb dd_OU_harmOf_96 (by decide) ?_
        obtain ⟨r_27, x_28, c_29, hf⟩ := of_bnd hf
        refine cl_OU_98 C0 hap (qq_OU_griefsWithout ho_v0 ho_v1 c_17) (qq_OU_griefsWithout ho_v0 ho_v1 c_23) c_29 hP hS ⟨Nat.le_of_ble_eq_true rfl, Nat.le_of_ble_eq_true rfl⟩ hl.1 (Nat.le_of_ble_eq_true rfl) dd_OU_harmOf_98 ⟨Nat.le_refl _, Nat.le_refl _⟩ (fun H locs hP hS => ?_)
        refine lv_istore (lv' := [(9, .int r_27), (8, va_re ad r_21), (7, va_re ad r_15), (6, .int r_8), (0, .ref (ad v0)), (1, .ref (ad v1)), (3, .int v3), (4, .int v4), (5, .int v5)]) hx hb dd_OU_harmOf_101 hl (by decide) (by simp only [List.filter_cons, List.filter_nil, cat_re]; rfl) (fun ls hl => ?_)
        refine lv_aload_n hx hb dd_OU_harmOf_103 rfl (lv_at hl 5 rfl) ?_
        refine lv_iload hx hb dd_OU_harmOf_104 (lv_at hl 8 rfl) ?_
        obtain ⟨r_30, x_31, c_32, hf⟩ := of_bnd hf
        refine cl_OU_126 C0 hap ho_v1 c_32 hP hS ⟨Nat.le_of_ble_eq_true rfl, Nat.le_of_ble_eq_true rfl⟩ hl.1 (Nat.le_of_ble_eq_true rfl) dd_OU_harmOf_106 ⟨Nat.le_refl _, Nat.le_refl _⟩ (fun H locs hP hS => ?_)
        refine lv_istore (lv' := [(10, .int r_30), (9, .int r_27), (8, va_re ad r_21), (7, va_re ad r_15), (6, .int r_8), (0, .ref (ad v0)), (1, .ref (ad v1)), (3, .int v3), (4, .int v4), (5, .int v5)]) hx hb dd_OU_harmOf_109 hl (by decide) (by simp only [List.filter_cons, List.filter_nil, cat_re]; rfl) (fun ls hl => ?_)
        refine lv_iload hx hb dd_OU_harmOf_111 (lv_at hl 1 rfl) ?_
        refine lv_iload hx hb dd_OU_harmOf_113 (lv_at hl 0 rfl) ?_
        refine lv_icmp_le (tgt := 124) hx hb dd_OU_harmOf_115 (by decide) (fun h_33 => ?_) (fun h_33 => ?_)
        · have hf := (if_pos h_33).symm.trans hf
          refine lv_iload hx hb dd_OU_harmOf_124 (lv_at hl 1 rfl) ?_
          refine lv_iload hx hb dd_OU_harmOf_126 (lv_at hl 0 rfl) ?_
          refine lv_icmp_ge (tgt := 134) hx hb dd_OU_harmOf_128 (by decide) (fun h_34 => ?_) (fun h_34 => ?_)
          · have hf := (if_pos h_34).symm.trans hf
            refine lv_iinc (v := v5 + 1) (lv' := [(5, .int (v5 + 1)), (10, .int r_30), (9, .int r_27), (8, va_re ad r_21), (7, va_re ad r_15), (6, .int r_8), (0, .ref (ad v0)), (1, .ref (ad v1)), (3, .int v3), (4, .int v4)]) hx hb dd_OU_harmOf_134 hl (k := 9) rfl rfl (by decide) (by simp only [List.filter_cons, List.filter_nil, cat_re]; rfl) (fun ls hl => ?_)
            refine lv_goto (tgt := 26) hx hb dd_OU_harmOf_137 (by decide) ?_
            exact ih x_31 v0 v1 v3 v4 (v5 + 1) ho_v0 ho_v1 hf _ _ _ hP hS (lv_sub hl [6, 7, 8, 9, 0] rfl)
          · have hf := (if_neg h_34).symm.trans hf
            refine lv_iinc (v := v4 + (-1)) (lv' := [(4, .int (v4 + (-1))), (10, .int r_30), (9, .int r_27), (8, va_re ad r_21), (7, va_re ad r_15), (6, .int r_8), (0, .ref (ad v0)), (1, .ref (ad v1)), (3, .int v3), (5, .int v5)]) hx hb dd_OU_harmOf_131 hl (k := 8) rfl rfl (by decide) (by simp only [List.filter_cons, List.filter_nil, cat_re]; rfl) (fun ls hl => ?_)
            refine lv_iinc (v := v5 + 1) (lv' := [(5, .int (v5 + 1)), (4, .int (v4 + (-1))), (10, .int r_30), (9, .int r_27), (8, va_re ad r_21), (7, va_re ad r_15), (6, .int r_8), (0, .ref (ad v0)), (1, .ref (ad v1)), (3, .int v3)]) hx hb dd_OU_harmOf_134 hl (k := 9) rfl rfl (by decide) (by simp only [List.filter_cons, List.filter_nil, cat_re]; rfl) (fun ls hl => ?_)
            refine lv_goto (tgt := 26) hx hb dd_OU_harmOf_137 (by decide) ?_
            exact ih x_31 v0 v1 v3 (v4 + (-1)) (v5 + 1) ho_v0 ho_v1 hf _ _ _ hP hS (lv_sub hl [7, 8, 9, 1, 0] rfl)
        · have hf := (if_neg h_33).symm.trans hf
          refine lv_iinc (v := v4 + 1) (lv' := [(4, .int (v4 + 1)), (10, .int r_30), (9, .int r_27), (8, va_re ad r_21), (7, va_re ad r_15), (6, .int r_8), (0, .ref (ad v0)), (1, .ref (ad v1)), (3, .int v3), (5, .int v5)]) hx hb dd_OU_harmOf_118 hl (k := 8) rfl rfl (by decide) (by simp only [List.filter_cons, List.filter_nil, cat_re]; rfl) (fun ls hl => ?_)
          refine lv_goto (tgt := 134) hx hb dd_OU_harmOf_121 (by decide) ?_
          refine lv_iinc (v := v5 + 1) (lv' := [(5, .int (v5 + 1)), (4, .int (v4 + 1)), (10, .int r_30), (9, .int r_27), (8, va_re ad r_21), (7, va_re ad r_15), (6, .int r_8), (0, .ref (ad v0)), (1, .ref (ad v1)), (3, .int v3)]) hx hb dd_OU_harmOf_134 hl (k := 9) rfl rfl (by decide) (by simp only [List.filter_cons, List.filter_nil, cat_re]; rfl) (fun ls hl => ?_)
          refine lv_goto (tgt := 26) hx hb dd_OU_harmOf_137 (by decide) ?_
          exact ih x_31 v0 v1 v3 (v4 + 1) (v5 + 1) ho_v0 ho_v1 hf _ _ _ hP hS (lv_sub hl [7, 8, 9, 1, 0] rfl)
set_option maxHeartbeats 4000000 in
set_option maxRecDepth 100000 in
theorem ww_OU_harmOf {p : Program} {l : Launch} {e : Env} {s : State} {m : MethodId} {args : Array Value} {below : List Frame} {meth : Method} {c : Code} {E : Ev} {A : Nat → Prop} {ad : Nat → Nat} {r : Int32} {x' : St} (C0 : Cx E A ROU bb_OU_harmOf 11 (some .int) p s m args meth c) (hap : Ap ad ixC A)  {x : St} {v0 : Nat} {v1 : Nat} {v2 : Int32} (ho_v0 : isO ixC v0 2) (ho_v1 : isO ixC v1 4) (hf : ff_OU_harmOf x v0 v1 v2 = some (r, x')) {H : Heap} {locs : List Loc} {ls : Array Slot} (hP : Wd E ad ixC x H) (hS : va_S A s.heap H locs) (hl : lv_has ls 11 [(0, .ref (ad v0)), (1, .ref (ad v1)), (2, .int v2)]) : W p l e rm_OU_harmOf s m args below meth c H locs 0 0 (MQ below (QX E ad ixC A (some (.int r)) x') args s 0 0 A) (F0 m 0 ls []) := by
  obtain ⟨hx, hb, hml, hr, hown, hts, hlk, hK⟩ := id C0
  have hf : bnd (ff_LE_at x (rf v1 3) v2 2) (fun r_1 x_2 => bnd (ff_SH_fillGriefs x_2 v1 (rf v0 0) r_1 v2) (fun _ x_5 => ff_OU_harmOf_26 FU x_5 v0 v1 r_1 0 0)) = some (r, x') := hf
  refine lv_aload_n hx hb dd_OU_harmOf_0 rfl (lv_at hl 1 rfl) ?_
  refine gf_OU_102 C0 hP ho_v1 dd_OU_harmOf_1 ?_
  refine lv_iload_n hx hb dd_OU_harmOf_4 rfl (lv_at hl 2 rfl) ?_
  refine lv_iconst (v := 2) hx hb dd_OU_harmOf_5 (by decide) ?_
  obtain ⟨r_1, x_2, c_3, hf⟩ := of_bnd hf
  refine cl_OU_95 C0 hap (tp_4_3 ho_v1) c_3 hP hS ⟨Nat.le_of_ble_eq_true rfl, Nat.le_of_ble_eq_true rfl⟩ hl.1 (Nat.le_of_ble_eq_true rfl) dd_OU_harmOf_6 ⟨Nat.le_refl _, Nat.le_refl _⟩ (fun H locs hP hS => ?_)
  refine lv_istore_n (lv' := [(3, .int r_1), (0, .ref (ad v0)), (1, .ref (ad v1)), (2, .int v2)]) hx hb dd_OU_harmOf_9 rfl hl (by decide) rfl (fun ls hl => ?_)
  refine lv_aload_n hx hb dd_OU_harmOf_10 rfl (lv_at hl 2 rfl) ?_
  refine lv_aload_n hx hb dd_OU_harmOf_11 rfl (lv_at hl 1 rfl) ?_
  refine gf_OU_9 C0 hP ho_v0 dd_OU_harmOf_12 ?_
  refine lv_iload_n hx hb dd_OU_harmOf_15 rfl (lv_at hl 0 rfl) ?_
  refine lv_iload_n hx hb dd_OU_harmOf_16 rfl (lv_at hl 3 rfl) ?_
  obtain ⟨_, x_5, c_6, hf⟩ := of_bnd hf
  refine cl_OU_106 C0 hap ho_v1 (tp_2_0 ho_v0) c_6 hP hS ⟨Nat.le_of_ble_eq_true rfl, Nat.le_of_ble_eq_true rfl⟩ hl.1 (Nat.le_of_ble_eq_true rfl) dd_OU_harmOf_17 ⟨Nat.le_refl _, Nat.le_refl _⟩ (fun H locs hP hS => ?_)
  refine lv_iconst (v := 0) hx hb dd_OU_harmOf_20 (by decide) ?_
  refine lv_istore (lv' := [(4, .int 0), (3, .int r_1), (0, .ref (ad v0)), (1, .ref (ad v1)), (2, .int v2)]) hx hb dd_OU_harmOf_21 hl (by decide) rfl (fun ls hl => ?_)
  refine lv_iconst (v := 0) hx hb dd_OU_harmOf_23 (by decide) ?_
  refine lv_istore (lv' := [(5, .int 0), (4, .int 0), (3, .int r_1), (0, .ref (ad v0)), (1, .ref (ad v1)), (2, .int v2)]) hx hb dd_OU_harmOf_24 hl (by decide) rfl (fun ls hl => ?_)
  exact ww_OU_harmOf_26 C0 hap  FU x_5 v0 v1 r_1 0 0 ho_v0 ho_v1 hf _ _ _ hP hS (lv_sub hl [3, 4, 2, 1, 0] rfl)
theorem cc_OU_harmOf {l : Launch} {E : Ev} {A : Nat → Prop} {ad : Nat → Nat} (hap : Ap ad ixC A) {x x' : St} {v0 : Nat} {v1 : Nat} {v2 : Int32} {r : Int32} (ho_v0 : isO ixC v0 2) (ho_v1 : isO ixC v1 4) (hf : ff_OU_harmOf x v0 v1 v2 = some (r, x')) : Met l yy_OU_harmOf (Cond.code yy_OU_harmOf bb_OU_harmOf 11 (some .int) :: gtb) rm_OU_harmOf (va_Pc [.ref (ad v0), .ref (ad v1), .int v2] (PB E A ad ixC x)) (QX E ad ixC A (some (.int r)) x') 0 0 A := by
  exact enter (by decide) (Nat.le_of_ble_eq_true rfl) (fun p e s m below meth c ls C0 hP hS hl => ww_OU_harmOf C0 hap ho_v0 ho_v1 hf hP hS hl)
