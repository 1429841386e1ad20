abbrev rm_RE_addByte : Room := { frames := 0, cells := 0, slots := 0, locals := 0 }
theorem dd_RE_addByte_0 : decode bb_RE_addByte 0 = .ok (.aload_n 0, 1) := by decide +kernel
theorem dd_RE_addByte_1 : decode bb_RE_addByte 1 = .ok (.getfield 26, 3) := by decide +kernel
theorem dd_RE_addByte_4 : decode bb_RE_addByte 4 = .ok (.sipush 250, 3) := by decide +kernel
theorem dd_RE_addByte_7 : decode bb_RE_addByte 7 = .ok (.if_icmp .ge 23, 3) := by decide +kernel
theorem dd_RE_addByte_10 : decode bb_RE_addByte 10 = .ok (.aload_n 0, 1) := by decide +kernel
theorem dd_RE_addByte_11 : decode bb_RE_addByte 11 = .ok (.getfield 9, 3) := by decide +kernel
theorem dd_RE_addByte_14 : decode bb_RE_addByte 14 = .ok (.aload_n 0, 1) := by decide +kernel
theorem dd_RE_addByte_15 : decode bb_RE_addByte 15 = .ok (.getfield 26, 3) := by decide +kernel
theorem dd_RE_addByte_18 : decode bb_RE_addByte 18 = .ok (.iload_n 1, 1) := by decide +kernel
theorem dd_RE_addByte_19 : decode bb_RE_addByte 19 = .ok (.iastore, 1) := by decide +kernel
theorem dd_RE_addByte_20 : decode bb_RE_addByte 20 = .ok (.aload_n 0, 1) := by decide +kernel
theorem dd_RE_addByte_21 : decode bb_RE_addByte 21 = .ok (.dup, 1) := by decide +kernel
theorem dd_RE_addByte_22 : decode bb_RE_addByte 22 = .ok (.getfield 26, 3) := by decide +kernel
theorem dd_RE_addByte_25 : decode bb_RE_addByte 25 = .ok (.iconst 1, 1) := by decide +kernel
theorem dd_RE_addByte_26 : decode bb_RE_addByte 26 = .ok (.iadd, 1) := by decide +kernel
theorem dd_RE_addByte_27 : decode bb_RE_addByte 27 = .ok (.putfield 26, 3) := by decide +kernel
theorem dd_RE_addByte_30 : decode bb_RE_addByte 30 = .ok (.return_, 1) := by decide +kernel
def ff_RE_addByte  (x : St) (v0 : Nat) (v1 : Int32) : Option (Unit × St) := (if 250 ≤ (gi x v0 1) then some ((), x) else (if ixb (gi x v0 1) (ln (rf v0 0)) = true then st (si x (rf v0 0) (ix (gi x v0 1)) v1) (fun x_3 => st (si x_3 v0 1 ((gi x_3 v0 1) + 1)) (fun x_4 => some ((), x_4))) else none))
set_option maxHeartbeats 4000000 in
set_option maxRecDepth 100000 in
theorem ww_RE_addByte {p : Program} {l : Launch} {e : Env} {s : State} {m : MethodId} {args : Array Value} {below : List Frame} {meth : Method} {c : Code} {E : Ev} {A : Nat → Prop} {ad : Nat → Nat} {r : Unit} {x' : St} (C0 : Cx E A RRE bb_RE_addByte 2 (none) p s m args meth c) (hap : Ap ad ixC A)  {x : St} {v0 : Nat} {v1 : Int32} (ho_v0 : isO ixC v0 3) (hf : ff_RE_addByte x v0 v1 = some (r, x')) {H : Heap} {locs : List Loc} {ls : Array Slot} (hP : Wd E ad ixC x H) (hS : va_S A s.heap H locs) (hl : lv_has ls 2 [(0, .ref (ad v0)), (1, .int v1)]) : W p l e rm_RE_addByte s m args below meth c H locs 0 0 (MQ below (QX E ad ixC A (none) x') args s 0 0 A) (F0 m 0 ls []) := by
  obtain ⟨hx, hb, hml, hr, hown, hts, hlk, hK⟩ := id C0
  have hf : (if 250 ≤ (gi x v0 1) then some ((), x) else (if ixb (gi x v0 1) (ln (rf v0 0)) = true then st (si x (rf v0 0) (ix (gi x v0 1)) v1) (fun x_3 => st (si x_3 v0 1 ((gi x_3 v0 1) + 1)) (fun x_4 => some ((), x_4))) else none)) = some (r, x') := hf
  refine lv_aload_n hx hb dd_RE_addByte_0 rfl (lv_at hl 0 rfl) ?_
  refine gf_RE_26 C0 hP ho_v0 dd_RE_addByte_1 ?_
  refine lv_sipush (v := 250) hx hb dd_RE_addByte_4 (by decide) ?_
  refine lv_icmp_ge (tgt := 30) hx hb dd_RE_addByte_7 (by decide) (fun h_1 => ?_) (fun h_1 => ?_)
  · have hf := (if_pos h_1).symm.trans hf
    exact rrV C0 hP hS dd_RE_addByte_30 hf
  · have hf := (if_neg h_1).symm.trans hf
    refine lv_aload_n hx hb dd_RE_addByte_10 rfl (lv_at hl 0 rfl) ?_
    refine gf_RE_9 C0 hP ho_v0 dd_RE_addByte_11 ?_
    refine lv_aload_n hx hb dd_RE_addByte_14 rfl (lv_at hl 0 rfl) ?_
    refine gf_RE_26 C0 hP ho_v0 dd_RE_addByte_15 ?_
    refine lv_iload_n hx hb dd_RE_addByte_18 rfl (lv_at hl 1 rfl) ?_
    obtain ⟨h_2, hf⟩ := of_ifb hf
    obtain ⟨x_3, hx_3, hf⟩ := of_st hf
    refine sI C0 hap hP hS (tp_3_0 ho_v0) h_2 hx_3 dd_RE_addByte_19 (fun H locs hP hS => ?_)
    refine lv_aload_n hx hb dd_RE_addByte_20 rfl (lv_at hl 0 rfl) ?_
    refine lv_dup hx hb dd_RE_addByte_21 rfl ?_
    refine gf_RE_26 C0 hP ho_v0 dd_RE_addByte_22 ?_
    refine lv_iconst (v := 1) hx hb dd_RE_addByte_25 (by decide) ?_
    refine lv_iadd hx hb dd_RE_addByte_26 ?_
    obtain ⟨x_4, hx_4, hf⟩ := of_st hf
    refine pf_RE_26 C0 hap hP hS ho_v0 hx_4 dd_RE_addByte_27 (fun H locs hP hS => ?_)
    exact rrV C0 hP hS dd_RE_addByte_30 hf
theorem cc_RE_addByte {l : Launch} {E : Ev} {A : Nat → Prop} {ad : Nat → Nat} (hap : Ap ad ixC A) {x x' : St} {v0 : Nat} {v1 : Int32} {r : Unit} (ho_v0 : isO ixC v0 3) (hf : ff_RE_addByte x v0 v1 = some (r, x')) : Met l yy_RE_addByte (Cond.code yy_RE_addByte bb_RE_addByte 2 (none) :: gtb) rm_RE_addByte (va_Pc [.ref (ad v0), .int v1] (PB E A ad ixC x)) (QX E ad ixC A (none) x') 0 0 A := by
  exact enter (by decide) (Nat.le_of_ble_eq_true rfl) (fun p e s m below meth c ls C0 hP hS hl => ww_RE_addByte C0 hap ho_v0 hf hP hS hl)
abbrev rm_RE_isLetter : Room := { frames := 0, cells := 0, slots := 0, locals := 0 }
theorem dd_RE_isLetter_0 : decode bb_RE_isLetter 0 = .ok (.iload_n 0, 1) := by decide +kernel
theorem dd_RE_isLetter_1 : decode bb_RE_isLetter 1 = .ok (.bipush 97, 2) := by decide +kernel
theorem dd_RE_isLetter_3 : decode bb_RE_isLetter 3 = .ok (.if_icmp .lt 13, 3) := by decide +kernel
theorem dd_RE_isLetter_6 : decode bb_RE_isLetter 6 = .ok (.iload_n 0, 1) := by decide +kernel
theorem dd_RE_isLetter_7 : decode bb_RE_isLetter 7 = .ok (.bipush 122, 2) := by decide +kernel
theorem dd_RE_isLetter_9 : decode bb_RE_isLetter 9 = .ok (.if_icmp .gt 7, 3) := by decide +kernel
theorem dd_RE_isLetter_12 : decode bb_RE_isLetter 12 = .ok (.iconst 1, 1) := by decide +kernel
theorem dd_RE_isLetter_13 : decode bb_RE_isLetter 13 = .ok (.goto 4, 3) := by decide +kernel
theorem dd_RE_isLetter_16 : decode bb_RE_isLetter 16 = .ok (.iconst 0, 1) := by decide +kernel
theorem dd_RE_isLetter_17 : decode bb_RE_isLetter 17 = .ok (.ireturn, 1) := by decide +kernel
def ff_RE_isLetter  (x : St) (v0 : Int32) : Option (Int32 × St) := (if v0 < 97 then some (0, x) else (if 122 < v0 then some (0, x) else some (1, x)))
set_option maxHeartbeats 4000000 in
set_option maxRecDepth 100000 in
theorem ww_RE_isLetter {p : Program} {l : Launch} {e : Env} {s : State} {m : MethodId} {args : Array Value} {below : List Frame} {meth : Method} {c : Code} {E : Ev} {A : Nat → Prop} {ad : Nat → Nat} {r : Int32} {x' : St} (C0 : Cx E A RRE bb_RE_isLetter 1 (some .boolean) p s m args meth c) (hap : Ap ad ixC A)  {x : St} {v0 : Int32}  (hf : ff_RE_isLetter x v0 = some (r, x')) {H : Heap} {locs : List Loc} {ls : Array Slot} (hP : Wd E ad ixC x H) (hS : va_S A s.heap H locs) (hl : lv_has ls 1 [(0, .int v0)]) : W p l e rm_RE_isLetter s m args below meth c H locs 0 0 (MQ below (QX E ad ixC A (some (.int r)) x') args s 0 0 A) (F0 m 0 ls []) := by
  obtain ⟨hx, hb, hml, hr, hown, hts, hlk, hK⟩ := id C0
  have hf : (if v0 < 97 then some (0, x) else (if 122 < v0 then some (0, x) else some (1, x))) = some (r, x') := hf
  refine lv_iload_n hx hb dd_RE_isLetter_0 rfl (lv_at hl 0 rfl) ?_
  refine lv_bipush (v := 97) hx hb dd_RE_isLetter_1 (by decide) ?_
  refine lv_icmp_lt (tgt := 16) hx hb dd_RE_isLetter_3 (by decide) (fun h_1 => ?_) (fun h_1 => ?_)
  · have hf := (if_pos h_1).symm.trans hf
    refine lv_iconst (v := 0) hx hb dd_RE_isLetter_16 (by decide) ?_
    exact rrZ C0 hP hS (by decide) dd_RE_isLetter_17 hf
  · have hf := (if_neg h_1).symm.trans hf
    refine lv_iload_n hx hb dd_RE_isLetter_6 rfl (lv_at hl 0 rfl) ?_
    refine lv_bipush (v := 122) hx hb dd_RE_isLetter_7 (by decide) ?_
    refine lv_icmp_gt (tgt := 16) hx hb dd_RE_isLetter_9 (by decide) (fun h_2 => ?_) (fun h_2 => ?_)
    · have hf := (if_pos h_2).symm.trans hf
      refine lv_iconst (v := 0) hx hb dd_RE_isLetter_16 (by decide) ?_
      exact rrZ C0 hP hS (by decide) dd_RE_isLetter_17 hf
    · have hf := (if_neg h_2).symm.trans hf
      refine lv_iconst (v := 1) hx hb dd_RE_isLetter_12 (by decide) ?_
      refine lv_goto (tgt := 17) hx hb dd_RE_isLetter_13 (by decide) ?_
      exact rrZ C0 hP hS (by decide) dd_RE_isLetter_17 hf
theorem cc_RE_isLetter {l : Launch} {E : Ev} {A : Nat → Prop} {ad : Nat → Nat} (hap : Ap ad ixC A) {x x' : St} {v0 : Int32} {r : Int32}  (hf : ff_RE_isLetter x v0 = some (r, x')) : Met l yy_RE_isLetter (Cond.code yy_RE_isLetter bb_RE_isLetter 1 (some .boolean) :: gtb) rm_RE_isLetter (va_Pc [.int v0] (PB E A ad ixC x)) (QX E ad ixC A (some (.int r)) x') 0 0 A := by
  exact enter (by decide) (Nat.le_of_ble_eq_true rfl) (fun p e s m below meth c ls C0 hP hS hl => ww_RE_isLetter C0 hap  hf hP hS hl)
theorem cl_RE_145 {p : Program} {l : Launch} {e : Env} {R : Room} {s : State} {m : MethodId} {args : Array Value} {below : List Frame} {meth : Method} {c : Code} {H : Heap} {locs : List Loc} {cells slots : Nat} {Q : State → Prop} {cc : ByteArray} {pc : Nat} {ls : Array Slot} {rest : List Value} {E : Ev} {A : Nat → Prop} {ad : Nat → Nat} {nL : Nat} {rt : Option FieldType} (C0 : Cx E A RRE cc nL rt p s m args meth c) (hap : Ap ad ixC A) {x x' : St} {v0 : Int32} {r : Int32}  (hc : ff_RE_isLetter x v0 = some (r, x')) (hP : Wd E ad ixC x H) (hS : va_S A s.heap H locs) (hR : rm_RE_isLetter.frames + 1 ≤ R.frames ∧ 8 + (1 + 11) + rm_RE_isLetter.locals ≤ R.locals) (hls : ls.size = nL) (hroom : (rest.map fun v => v.category).sum ≤ 8) (hdg : decode cc pc = .ok (.invokestatic 145, 3)) (hf : cells ≤ R.cells ∧ slots ≤ R.slots) (kk : ∀ H1 locs1, Wd E ad ixC x' H1 → va_S A s.heap H1 locs1 → W p l e R s m args below meth c H1 locs1 cells slots Q (F0 m (pc + 3) ls (.int r :: rest))) : W p l e R s m args below meth c H locs cells slots Q (F0 m pc ls (.int v0 :: rest)) :=
  rcS (n := 1) C0 (cc_RE_isLetter hap  hc) hP hS gw_code_RE_isLetter gw_m_RE_145 gw_static_RE_isLetter gw_ini_RE rfl rfl (by decide +kernel) rfl hR hls rfl hroom hdg hf (fun H1 locs1 a _ _ b => kk H1 locs1 a b)
abbrev rm_RE_readLetters : Room := { frames := 1, cells := 0, slots := 0, locals := 20 }
theorem dd_RE_readLetters_0 : decode bb_RE_readLetters 0 = .ok (.aload_n 0, 1) := by decide +kernel
theorem dd_RE_readLetters_1 : decode bb_RE_readLetters 1 = .ok (.iconst 1, 1) := by decide +kernel
theorem dd_RE_readLetters_2 : decode bb_RE_readLetters 2 = .ok (.putfield 38, 3) := by decide +kernel
theorem dd_RE_readLetters_5 : decode bb_RE_readLetters 5 = .ok (.aload_n 0, 1) := by decide +kernel
theorem dd_RE_readLetters_6 : decode bb_RE_readLetters 6 = .ok (.getfield 32, 3) := by decide +kernel
theorem dd_RE_readLetters_9 : decode bb_RE_readLetters 9 = .ok (.aload_n 0, 1) := by decide +kernel
theorem dd_RE_readLetters_10 : decode bb_RE_readLetters 10 = .ok (.getfield 26, 3) := by decide +kernel
theorem dd_RE_readLetters_13 : decode bb_RE_readLetters 13 = .ok (.if_icmp .ge 31, 3) := by decide +kernel
theorem dd_RE_readLetters_16 : decode bb_RE_readLetters 16 = .ok (.aload_n 0, 1) := by decide +kernel
theorem dd_RE_readLetters_17 : decode bb_RE_readLetters 17 = .ok (.getfield 9, 3) := by decide +kernel
theorem dd_RE_readLetters_20 : decode bb_RE_readLetters 20 = .ok (.aload_n 0, 1) := by decide +kernel
theorem dd_RE_readLetters_21 : decode bb_RE_readLetters 21 = .ok (.getfield 32, 3) := by decide +kernel
theorem dd_RE_readLetters_24 : decode bb_RE_readLetters 24 = .ok (.iaload, 1) := by decide +kernel
theorem dd_RE_readLetters_25 : decode bb_RE_readLetters 25 = .ok (.invokestatic 145, 3) := by decide +kernel
theorem dd_RE_readLetters_28 : decode bb_RE_readLetters 28 = .ok (.ifCond .eq 16, 3) := by decide +kernel
theorem dd_RE_readLetters_31 : decode bb_RE_readLetters 31 = .ok (.aload_n 0, 1) := by decide +kernel
theorem dd_RE_readLetters_32 : decode bb_RE_readLetters 32 = .ok (.dup, 1) := by decide +kernel
theorem dd_RE_readLetters_33 : decode bb_RE_readLetters 33 = .ok (.getfield 32, 3) := by decide +kernel
theorem dd_RE_readLetters_36 : decode bb_RE_readLetters 36 = .ok (.iconst 1, 1) := by decide +kernel
theorem dd_RE_readLetters_37 : decode bb_RE_readLetters 37 = .ok (.iadd, 1) := by decide +kernel
theorem dd_RE_readLetters_38 : decode bb_RE_readLetters 38 = .ok (.putfield 32, 3) := by decide +kernel
theorem dd_RE_readLetters_41 : decode bb_RE_readLetters 41 = .ok (.goto (-36), 3) := by decide +kernel
theorem dd_RE_readLetters_44 : decode bb_RE_readLetters 44 = .ok (.return_, 1) := by decide +kernel
def ff_RE_readLetters_5  : Nat → St → Nat → Option (Unit × St)
  | 0, _, _ => none
  | n + 1, x, v0 => (if (gi x v0 1) ≤ (gi x v0 2) then some ((), x) else (if ixb (gi x v0 2) (ln (rf v0 0)) = true then bnd (ff_RE_isLetter x (gi x (rf v0 0) (ix (gi x v0 2)))) (fun r_4 x_5 => (if r_4 = 0 then some ((), x_5) else st (si x_5 v0 2 ((gi x_5 v0 2) + 1)) (fun x_8 => ff_RE_readLetters_5 n x_8 v0))) else none))
def ff_RE_readLetters  (x : St) (v0 : Nat) : Option (Unit × St) := st (si x v0 5 1) (fun x_1 => ff_RE_readLetters_5 FU x_1 v0)
set_option maxHeartbeats 4000000 in
set_option maxRecDepth 100000 in
theorem ww_RE_readLetters_5 {p : Program} {l : Launch} {e : Env} {s : State} {m : MethodId} {args : Array Value} {below : List Frame} {meth : Method} {c : Code} {E : Ev} {A : Nat → Prop} {ad : Nat → Nat} {r : Unit} {x' : St} (C0 : Cx E A RRE bb_RE_readLetters 1 (none) p s m args meth c) (hap : Ap ad ixC A)  : ∀ (n : Nat), ∀ (x : St) (v0 : Nat), (isO ixC v0 3) → ff_RE_readLetters_5 n x v0 = some (r, x') → ∀ (H : Heap) (locs : List Loc) (ls : Array Slot), Wd E ad ixC x H → va_S A s.heap H locs → lv_has ls 1 [(0, .ref (ad v0))] → W p l e rm_RE_readLetters s m args below meth c H locs 0 0 (MQ below (QX E ad ixC A (none) x') args s 0 0 A) (F0 m 5 ls []) := by
  obtain ⟨hx, hb, hml, hr, hown, hts, hlk, hK⟩ := id C0
  intro n
  induction n with
  | zero => intro x v0 ho_v0 hf; exact of_no hf
  | succ n ih =>
    intro x v0 ho_v0 hf H locs ls hP hS hl
    have hf : (if (gi x v0 1) ≤ (gi x v0 2) then some ((), x) else (if ixb (gi x v0 2) (ln (rf v0 0)) = true then bnd (ff_RE_isLetter x (gi x (rf v0 0) (ix (gi x v0 2)))) (fun r_4 x_5 => (if r_4 = 0 then some ((), x_5) else st (si x_5 v0 2 ((gi x_5 v0 2) + 1)) (fun x_8 => ff_RE_readLetters_5 n x_8 v0))) else none)) = some (r, x') := hf
    refine lv_aload_n hx hb dd_RE_readLetters_5 rfl (lv_at hl 0 rfl) ?_
    refine gf_RE_32 C0 hP ho_v0 dd_RE_readLetters_6 ?_
    refine lv_aload_n hx hb dd_RE_readLetters_9 rfl (lv_at hl 0 rfl) ?_
    refine gf_RE_26 C0 hP ho_v0 dd_RE_readLetters_10 ?_
    refine lv_icmp_ge (tgt := 44) hx hb dd_RE_readLetters_13 (by decide) (fun h_2 => ?_) (fun h_2 => ?_)
    · have hf := (if_pos h_2).symm.trans hf
      exact rrV C0 hP hS dd_RE_readLetters_44 hf
    · have hf := (if_neg h_2).symm.trans hf
      refine lv_aload_n hx hb dd_RE_readLetters_16 rfl (lv_at hl 0 rfl) ?_
      refine gf_RE_9 C0 hP ho_v0 dd_RE_readLetters_17 ?_
      refine lv_aload_n hx hb dd_RE_readLetters_20 rfl (lv_at hl 0 rfl) ?_
      refine gf_RE_32 C0 hP ho_v0 dd_RE_readLetters_21 ?_
      obtain ⟨h_3, hf⟩ := of_ifb hf
      refine raI C0 hP (tp_3_0 ho_v0) h_3 dd_RE_readLetters_24 ?_
      obtain ⟨r_4, x_5, c_6, hf⟩ := of_bnd hf
      refine cl_RE_145 C0 hap  c_6 hP hS ⟨Nat.le_of_ble_eq_true rfl, Nat.le_of_ble_eq_true rfl⟩ hl.1 (Nat.le_of_ble_eq_true rfl) dd_RE_readLetters_25 ⟨Nat.le_refl _, Nat.le_refl _⟩ (fun H locs hP hS => ?_)
      refine lv_if_eq (tgt := 44) hx hb dd_RE_readLetters_28 (by decide) (fun h_7 => ?_) (fun h_7 => ?_)
      · have hf := (if_pos h_7).symm.trans hf
        exact rrV C0 hP hS dd_RE_readLetters_44 hf
      · have hf := (if_neg h_7).symm.trans hf
        refine lv_aload_n hx hb dd_RE_readLetters_31 rfl (lv_at hl 0 rfl) ?_
        refine lv_dup hx hb dd_RE_readLetters_32 rfl ?_
        refine gf_RE_32 C0 hP ho_v0 dd_RE_readLetters_33 ?_
        refine lv_iconst (v := 1) hx hb dd_RE_readLetters_36 (by decide) ?_
        refine lv_iadd hx hb dd_RE_readLetters_37 ?_
        obtain ⟨x_8, hx_8, hf⟩ := of_st hf
        refine pf_RE_32 C0 hap hP hS ho_v0 hx_8 dd_RE_readLetters_38 (fun H locs hP hS => ?_)
        refine lv_goto (tgt := 5) hx hb dd_RE_readLetters_41 (by decide) ?_
        exact ih x_8 v0 ho_v0 hf _ _ _ hP hS (lv_sub hl [0] rfl)
set_option maxHeartbeats 4000000 in
set_option maxRecDepth 100000 in
theorem ww_RE_readLetters {p : Program} {l : Launch} {e : Env} {s : State} {m : MethodId} {args : Array Value} {below : List Frame} {meth : Method} {c : Code} {E : Ev} {A : Nat → Prop} {ad : Nat → Nat} {r : Unit} {x' : St} (C0 : Cx E A RRE bb_RE_readLetters 1 (none) p s m args meth c) (hap : Ap ad ixC A)  {x : St} {v0 : Nat} (ho_v0 : isO ixC v0 3) (hf : ff_RE_readLetters x v0 = some (r, x')) {H : Heap} {locs : List Loc} {ls : Array Slot} (hP : Wd E ad ixC x H) (hS : va_S A s.heap H locs) (hl : lv_has ls 1 [(0, .ref (ad v0))]) : W p l e rm_RE_readLetters s m args below meth c H locs 0 0 (MQ below (QX E ad ixC A (none) x') args s 0 0 A) (F0 m 0 ls []) := by
  obtain ⟨hx, hb, hml, hr, hown, hts, hlk, hK⟩ := id C0
  have hf : st (si x v0 5 1) (fun x_1 => ff_RE_readLetters_5 FU x_1 v0) = some (r, x') := hf
  refine lv_aload_n hx hb dd_RE_readLetters_0 rfl (lv_at hl 0 rfl) ?_
  refine lv_iconst (v := 1) hx hb dd_RE_readLetters_1 (by decide) ?_
  obtain ⟨x_1, hx_1, hf⟩ := of_st hf
  refine pf_RE_38 C0 hap hP hS ho_v0 hx_1 dd_RE_readLetters_2 (fun H locs hP hS => ?_)
  exact ww_RE_readLetters_5 C0 hap  FU x_1 v0 ho_v0 hf _ _ _ hP hS (lv_sub hl [0] rfl)
theorem cc_RE_readLetters {l : Launch} {E : Ev} {A : Nat → Prop} {ad : Nat → Nat} (hap : Ap ad ixC A) {x x' : St} {v0 : Nat} {r : Unit} (ho_v0 : isO ixC v0 3) (hf : ff_RE_readLetters x v0 = some (r, x')) : Met l yy_RE_readLetters (Cond.code yy_RE_readLetters bb_RE_readLetters 1 (none) :: gtb) rm_RE_readLetters (va_Pc [.ref (ad v0)] (PB E A ad ixC x)) (QX E ad ixC A (none) x') 0 0 A := by
  exact enter (by decide) (Nat.le_of_ble_eq_true rfl) (fun p e s m below meth c ls C0 hP hS hl => ww_RE_readLetters C0 hap ho_v0 hf hP hS hl)
abbrev rm_RE_isFigure : Room := { frames := 0, cells := 0, slots := 0, locals := 0 }
theorem dd_RE_isFigure_0 : decode bb_RE_isFigure 0 = .ok (.iload_n 0, 1) := by decide +kernel
theorem dd_RE_isFigure_1 : decode bb_RE_isFigure 1 = .ok (.bipush 48, 2) := by decide +kernel
theorem dd_RE_isFigure_3 : decode bb_RE_isFigure 3 = .ok (.if_icmp .lt 13, 3) := by decide +kernel
theorem dd_RE_isFigure_6 : decode bb_RE_isFigure 6 = .ok (.iload_n 0, 1) := by decide +kernel
theorem dd_RE_isFigure_7 : decode bb_RE_isFigure 7 = .ok (.bipush 57, 2) := by decide +kernel
theorem dd_RE_isFigure_9 : decode bb_RE_isFigure 9 = .ok (.if_icmp .gt 7, 3) := by decide +kernel
theorem dd_RE_isFigure_12 : decode bb_RE_isFigure 12 = .ok (.iconst 1, 1) := by decide +kernel
theorem dd_RE_isFigure_13 : decode bb_RE_isFigure 13 = .ok (.goto 4, 3) := by decide +kernel
theorem dd_RE_isFigure_16 : decode bb_RE_isFigure 16 = .ok (.iconst 0, 1) := by decide +kernel
theorem dd_RE_isFigure_17 : decode bb_RE_isFigure 17 = .ok (.ireturn, 1) := by decide +kernel
def ff_RE_isFigure  (x : St) (v0 : Int32) : Option (Int32 × St) := (if v0 < 48 then some (0, x) else (if 57 < v0 then some (0, x) else some (1, x)))
set_option maxHeartbeats 4000000 in
set_option maxRecDepth 100000 in
theorem ww_RE_isFigure {p : Program} {l : Launch} {e : Env} {s : State} {m : MethodId} {args : Array Value} {below : List Frame} {meth : Method} {c : Code} {E : Ev} {A : Nat → Prop} {ad : Nat → Nat} {r : Int32} {x' : St} (C0 : Cx E A RRE bb_RE_isFigure 1 (some .boolean) p s m args meth c) (hap : Ap ad ixC A)  {x : St} {v0 : Int32}  (hf : ff_RE_isFigure x v0 = some (r, x')) {H : Heap} {locs : List Loc} {ls : Array Slot} (hP : Wd E ad ixC x H) (hS : va_S A s.heap H locs) (hl : lv_has ls 1 [(0, .int v0)]) : W p l e rm_RE_isFigure s m args below meth c H locs 0 0 (MQ below (QX E ad ixC A (some (.int r)) x') args s 0 0 A) (F0 m 0 ls []) := by
  obtain ⟨hx, hb, hml, hr, hown, hts, hlk, hK⟩ := id C0
  have hf : (if v0 < 48 then some (0, x) else (if 57 < v0 then some (0, x) else some (1, x))) = some (r, x') := hf
  refine lv_iload_n hx hb dd_RE_isFigure_0 rfl (lv_at hl 0 rfl) ?_
  refine lv_bipush (v := 48) hx hb dd_RE_isFigure_1 (by decide) ?_
  refine lv_icmp_lt (tgt := 16) hx hb dd_RE_isFigure_3 (by decide) (fun h_1 => ?_) (fun h_1 => ?_)
  · have hf := (if_pos h_1).symm.trans hf
    refine lv_iconst (v := 0) hx hb dd_RE_isFigure_16 (by decide) ?_
    exact rrZ C0 hP hS (by decide) dd_RE_isFigure_17 hf
  · have hf := (if_neg h_1).symm.trans hf
    refine lv_iload_n hx hb dd_RE_isFigure_6 rfl (lv_at hl 0 rfl) ?_
    refine lv_bipush (v := 57) hx hb dd_RE_isFigure_7 (by decide) ?_
    refine lv_icmp_gt (tgt := 16) hx hb dd_RE_isFigure_9 (by decide) (fun h_2 => ?_) (fun h_2 => ?_)
    · have hf := (if_pos h_2).symm.trans hf
      refine lv_iconst (v := 0) hx hb dd_RE_isFigure_16 (by decide) ?_
      exact rrZ C0 hP hS (by decide) dd_RE_isFigure_17 hf
    · have hf := (if_neg h_2).symm.trans hf
      refine lv_iconst (v := 1) hx hb dd_RE_isFigure_12 (by decide) ?_
      refine lv_goto (tgt := 17) hx hb dd_RE_isFigure_13 (by decide) ?_
      exact rrZ C0 hP hS (by decide) dd_RE_isFigure_17 hf
theorem cc_RE_isFigure {l : Launch} {E : Ev} {A : Nat → Prop} {ad : Nat → Nat} (hap : Ap ad ixC A) {x x' : St} {v0 : Int32} {r : Int32}  (hf : ff_RE_isFigure x v0 = some (r, x')) : Met l yy_RE_isFigure (Cond.code yy_RE_isFigure bb_RE_isFigure 1 (some .boolean) :: gtb) rm_RE_isFigure (va_Pc [.int v0] (PB E A ad ixC x)) (QX E ad ixC A (some (.int r)) x') 0 0 A := by
  exact enter (by decide) (Nat.le_of_ble_eq_true rfl) (fun p e s m below meth c ls C0 hP hS hl => ww_RE_isFigure C0 hap  hf hP hS hl)
theorem cl_RE_152 {p : Program} {l : Launch} {e : Env} {R : Room} {s : State} {m : MethodId} {args : Array Value} {below : List Frame} {meth : Method} {c : Code} {H : Heap} {locs : List Loc} {cells slots : Nat} {Q : State → Prop} {cc : ByteArray} {pc : Nat} {ls : Array Slot} {rest : List Value} {E : Ev} {A : Nat → Prop} {ad : Nat → Nat} {nL : Nat} {rt : Option FieldType} (C0 : Cx E A RRE cc nL rt p s m args meth c) (hap : Ap ad ixC A) {x x' : St} {v0 : Int32} {r : Int32}  (hc : ff_RE_isFigure x v0 = some (r, x')) (hP : Wd E ad ixC x H) (hS : va_S A s.heap H locs) (hR : rm_RE_isFigure.frames + 1 ≤ R.frames ∧ 8 + (1 + 11) + rm_RE_isFigure.locals ≤ R.locals) (hls : ls.size = nL) (hroom : (rest.map fun v => v.category).sum ≤ 8) (hdg : decode cc pc = .ok (.invokestatic 152, 3)) (hf : cells ≤ R.cells ∧ slots ≤ R.slots) (kk : ∀ H1 locs1, Wd E ad ixC x' H1 → va_S A s.heap H1 locs1 → W p l e R s m args below meth c H1 locs1 cells slots Q (F0 m (pc + 3) ls (.int r :: rest))) : W p l e R s m args below meth c H locs cells slots Q (F0 m pc ls (.int v0 :: rest)) :=
  rcS (n := 1) C0 (cc_RE_isFigure hap  hc) hP hS gw_code_RE_isFigure gw_m_RE_152 gw_static_RE_isFigure gw_ini_RE rfl rfl (by decide +kernel) rfl hR hls rfl hroom hdg hf (fun H1 locs1 a _ _ b => kk H1 locs1 a b)
abbrev rm_RE_readFigures : Room := { frames := 1, cells := 0, slots := 0, locals := 20 }
theorem dd_RE_readFigures_0 : decode bb_RE_readFigures 0 = .ok (.aload_n 0, 1) := by decide +kernel
theorem dd_RE_readFigures_1 : decode bb_RE_readFigures 1 = .ok (.getfield 32, 3) := by decide +kernel
theorem dd_RE_readFigures_4 : decode bb_RE_readFigures 4 = .ok (.aload_n 0, 1) := by decide +kernel
theorem dd_RE_readFigures_5 : decode bb_RE_readFigures 5 = .ok (.getfield 26, 3) := by decide +kernel
theorem dd_RE_readFigures_8 : decode bb_RE_readFigures 8 = .ok (.if_icmp .ge 68, 3) := by decide +kernel
theorem dd_RE_readFigures_11 : decode bb_RE_readFigures 11 = .ok (.aload_n 0, 1) := by decide +kernel
theorem dd_RE_readFigures_12 : decode bb_RE_readFigures 12 = .ok (.getfield 9, 3) := by decide +kernel
theorem dd_RE_readFigures_15 : decode bb_RE_readFigures 15 = .ok (.aload_n 0, 1) := by decide +kernel
theorem dd_RE_readFigures_16 : decode bb_RE_readFigures 16 = .ok (.getfield 32, 3) := by decide +kernel
theorem dd_RE_readFigures_19 : decode bb_RE_readFigures 19 = .ok (.iaload, 1) := by decide +kernel
theorem dd_RE_readFigures_20 : decode bb_RE_readFigures 20 = .ok (.invokestatic 152, 3) := by decide +kernel
theorem dd_RE_readFigures_23 : decode bb_RE_readFigures 23 = .ok (.ifCond .eq 53, 3) := by decide +kernel
theorem dd_RE_readFigures_26 : decode bb_RE_readFigures 26 = .ok (.aload_n 0, 1) := by decide +kernel
theorem dd_RE_readFigures_27 : decode bb_RE_readFigures 27 = .ok (.getfield 32, 3) := by decide +kernel
theorem dd_RE_readFigures_30 : decode bb_RE_readFigures 30 = .ok (.aload_n 0, 1) := by decide +kernel
theorem dd_RE_readFigures_31 : decode bb_RE_readFigures 31 = .ok (.getfield 142, 3) := by decide +kernel
theorem dd_RE_readFigures_34 : decode bb_RE_readFigures 34 = .ok (.isub, 1) := by decide +kernel
theorem dd_RE_readFigures_35 : decode bb_RE_readFigures 35 = .ok (.iconst 2, 1) := by decide +kernel
theorem dd_RE_readFigures_36 : decode bb_RE_readFigures 36 = .ok (.if_icmp .ge 27, 3) := by decide +kernel
theorem dd_RE_readFigures_39 : decode bb_RE_readFigures 39 = .ok (.aload_n 0, 1) := by decide +kernel
theorem dd_RE_readFigures_40 : decode bb_RE_readFigures 40 = .ok (.bipush 10, 2) := by decide +kernel
theorem dd_RE_readFigures_42 : decode bb_RE_readFigures 42 = .ok (.aload_n 0, 1) := by decide +kernel
theorem dd_RE_readFigures_43 : decode bb_RE_readFigures 43 = .ok (.getfield 120, 3) := by decide +kernel
theorem dd_RE_readFigures_46 : decode bb_RE_readFigures 46 = .ok (.imul, 1) := by decide +kernel
theorem dd_RE_readFigures_47 : decode bb_RE_readFigures 47 = .ok (.aload_n 0, 1) := by decide +kernel
theorem dd_RE_readFigures_48 : decode bb_RE_readFigures 48 = .ok (.getfield 9, 3) := by decide +kernel
theorem dd_RE_readFigures_51 : decode bb_RE_readFigures 51 = .ok (.aload_n 0, 1) := by decide +kernel
theorem dd_RE_readFigures_52 : decode bb_RE_readFigures 52 = .ok (.getfield 32, 3) := by decide +kernel
theorem dd_RE_readFigures_55 : decode bb_RE_readFigures 55 = .ok (.iaload, 1) := by decide +kernel
theorem dd_RE_readFigures_56 : decode bb_RE_readFigures 56 = .ok (.iadd, 1) := by decide +kernel
theorem dd_RE_readFigures_57 : decode bb_RE_readFigures 57 = .ok (.bipush 48, 2) := by decide +kernel
theorem dd_RE_readFigures_59 : decode bb_RE_readFigures 59 = .ok (.isub, 1) := by decide +kernel
theorem dd_RE_readFigures_60 : decode bb_RE_readFigures 60 = .ok (.putfield 120, 3) := by decide +kernel
theorem dd_RE_readFigures_63 : decode bb_RE_readFigures 63 = .ok (.aload_n 0, 1) := by decide +kernel
theorem dd_RE_readFigures_64 : decode bb_RE_readFigures 64 = .ok (.dup, 1) := by decide +kernel
theorem dd_RE_readFigures_65 : decode bb_RE_readFigures 65 = .ok (.getfield 32, 3) := by decide +kernel
theorem dd_RE_readFigures_68 : decode bb_RE_readFigures 68 = .ok (.iconst 1, 1) := by decide +kernel
theorem dd_RE_readFigures_69 : decode bb_RE_readFigures 69 = .ok (.iadd, 1) := by decide +kernel
theorem dd_RE_readFigures_70 : decode bb_RE_readFigures 70 = .ok (.putfield 32, 3) := by decide +kernel
theorem dd_RE_readFigures_73 : decode bb_RE_readFigures 73 = .ok (.goto (-73), 3) := by decide +kernel
theorem dd_RE_readFigures_76 : decode bb_RE_readFigures 76 = .ok (.aload_n 0, 1) := by decide +kernel
theorem dd_RE_readFigures_77 : decode bb_RE_readFigures 77 = .ok (.aload_n 0, 1) := by decide +kernel
theorem dd_RE_readFigures_78 : decode bb_RE_readFigures 78 = .ok (.getfield 32, 3) := by decide +kernel
theorem dd_RE_readFigures_81 : decode bb_RE_readFigures 81 = .ok (.aload_n 0, 1) := by decide +kernel
theorem dd_RE_readFigures_82 : decode bb_RE_readFigures 82 = .ok (.getfield 142, 3) := by decide +kernel
theorem dd_RE_readFigures_85 : decode bb_RE_readFigures 85 = .ok (.isub, 1) := by decide +kernel
theorem dd_RE_readFigures_86 : decode bb_RE_readFigures 86 = .ok (.iconst 2, 1) := by decide +kernel
theorem dd_RE_readFigures_87 : decode bb_RE_readFigures 87 = .ok (.if_icmp .gt 7, 3) := by decide +kernel
theorem dd_RE_readFigures_90 : decode bb_RE_readFigures 90 = .ok (.iconst 2, 1) := by decide +kernel
theorem dd_RE_readFigures_91 : decode bb_RE_readFigures 91 = .ok (.goto 4, 3) := by decide +kernel
theorem dd_RE_readFigures_94 : decode bb_RE_readFigures 94 = .ok (.iconst 4, 1) := by decide +kernel
theorem dd_RE_readFigures_95 : decode bb_RE_readFigures 95 = .ok (.putfield 38, 3) := by decide +kernel
theorem dd_RE_readFigures_98 : decode bb_RE_readFigures 98 = .ok (.return_, 1) := by decide +kernel
def ff_RE_readFigures_76  (x : St) (v0 : Nat) : Option (Unit × St) := (if 2 < ((gi x v0 2) - (gi x v0 6)) then st (si x v0 5 4) (fun x_3 => some ((), x_3)) else st (si x v0 5 2) (fun x_4 => some ((), x_4)))
def ff_RE_readFigures_0  : Nat → St → Nat → Option (Unit × St)
  | 0, _, _ => none
  | n + 1, x, v0 => (if (gi x v0 1) ≤ (gi x v0 2) then ff_RE_readFigures_76 x v0 else (if ixb (gi x v0 2) (ln (rf v0 0)) = true then bnd (ff_RE_isFigure x (gi x (rf v0 0) (ix (gi x v0 2)))) (fun r_6 x_7 => (if r_6 = 0 then ff_RE_readFigures_76 x_7 v0 else (if 2 ≤ ((gi x_7 v0 2) - (gi x_7 v0 6)) then st (si x_7 v0 2 ((gi x_7 v0 2) + 1)) (fun x_11 => ff_RE_readFigures_0 n x_11 v0) else (if ixb (gi x_7 v0 2) (ln (rf v0 0)) = true then st (si x_7 v0 7 (((10 * (gi x_7 v0 7)) + (gi x_7 (rf v0 0) (ix (gi x_7 v0 2)))) - 48)) (fun x_13 => st (si x_13 v0 2 ((gi x_13 v0 2) + 1)) (fun x_14 => ff_RE_readFigures_0 n x_14 v0)) else none)))) else none))
def ff_RE_readFigures (x : St) (v0 : Nat) : Option (Unit × St) := ff_RE_readFigures_0 FU x v0
set_option maxHeartbeats 4000000 in
set_option maxRecDepth 100000 in
theorem ww_RE_readFigures_76 {p : Program} {l : Launch} {e : Env} {s : State} {m : MethodId} {args : Array Value} {below : List Frame} {meth : Method} {c : Code} {E : Ev} {A : Nat → Prop} {ad : Nat → Nat} {r : Unit} {x' : St} (C0 : Cx E A RRE bb_RE_readFigures 1 (none) p s m args meth c) (hap : Ap ad ixC A)  {x : St} {v0 : Nat} (ho_v0 : isO ixC v0 3) (hf : ff_RE_readFigures_76 x v0 = some (r, x')) {H : Heap} {locs : List Loc} {ls : Array Slot} (hP : Wd E ad ixC x H) (hS : va_S A s.heap H locs) (hl : lv_has ls 1 [(0, .ref (ad v0))]) : W p l e rm_RE_readFigures s m args below meth c H locs 0 0 (MQ below (QX E ad ixC A (none) x') args s 0 0 A) (F0 m 76 ls []) := by
  obtain ⟨hx, hb, hml, hr, hown, hts, hlk, hK⟩ := id C0
  have hf : (if 2 < ((gi x v0 2) - (gi x v0 6)) then st (si x v0 5 4) (fun x_3 => some ((), x_3)) else st (si x v0 5 2) (fun x_4 => some ((), x_4))) = some (r, x') := hf
  refine lv_aload_n hx hb dd_RE_readFigures_76 rfl (lv_at hl 0 rfl) ?_
  refine lv_aload_n hx hb dd_RE_readFigures_77 rfl (lv_at hl 0 rfl) ?_
  refine gf_RE_32 C0 hP ho_v0 dd_RE_readFigures_78 ?_
  refine lv_aload_n hx hb dd_RE_readFigures_81 rfl (lv_at hl 0 rfl) ?_
  refine gf_RE_142 C0 hP ho_v0 dd_RE_readFigures_82 ?_
  refine lv_isub hx hb dd_RE_readFigures_85 ?_
  refine lv_iconst (v := 2) hx hb dd_RE_readFigures_86 (by decide) ?_
  refine lv_icmp_gt (tgt := 94) hx hb dd_RE_readFigures_87 (by decide) (fun h_2 => ?_) (fun h_2 => ?_)
  · have hf := (if_pos h_2).symm.trans hf
    refine lv_iconst (v := 4) hx hb dd_RE_readFigures_94 (by decide) ?_
    obtain ⟨x_3, hx_3, hf⟩ := of_st hf
    refine pf_RE_38 C0 hap hP hS ho_v0 hx_3 dd_RE_readFigures_95 (fun H locs hP hS => ?_)
    exact rrV C0 hP hS dd_RE_readFigures_98 hf
  · have hf := (if_neg h_2).symm.trans hf
    refine lv_iconst (v := 2) hx hb dd_RE_readFigures_90 (by decide) ?_
    refine lv_goto (tgt := 95) hx hb dd_RE_readFigures_91 (by decide) ?_
    obtain ⟨x_4, hx_4, hf⟩ := of_st hf
    refine pf_RE_38 C0 hap hP hS ho_v0 hx_4 dd_RE_readFigures_95 (fun H locs hP hS => ?_)
    exact rrV C0 hP hS dd_RE_readFigures_98 hf
set_option maxHeartbeats 4000000 in
set_option maxRecDepth 100000 in
theorem ww_RE_readFigures_0 {p : Program} {l : Launch} {e : Env} {s : State} {m : MethodId} {args : Array Value} {below : List Frame} {meth : Method} {c : Code} {E : Ev} {A : Nat → Prop} {ad : Nat → Nat} {r : Unit} {x' : St} (C0 : Cx E A RRE bb_RE_readFigures 1 (none) p s m args meth c) (hap : Ap ad ixC A)  : ∀ (n : Nat), ∀ (x : St) (v0 : Nat), (isO ixC v0 3) → ff_RE_readFigures_0 n x v0 = some (r, x') → ∀ (H : Heap) (locs : List Loc) (ls : Array Slot), Wd E ad ixC x H → va_S A s.heap H locs → lv_has ls 1 [(0, .ref (ad v0))] → W p l e rm_RE_readFigures s m args below meth c H locs 0 0 (MQ below (QX E ad ixC A (none) x') args s 0 0 A) (F0 m 0 ls []) := by
  obtain ⟨hx, hb, hml, hr, hown, hts, hlk, hK⟩ := id C0
  intro n
  induction n with
  | zero => intro x v0 ho_v0 hf; exact of_no hf
  | succ n ih =>
    intro x v0 ho_v0 hf H locs ls hP hS hl
    have hf : (if (gi x v0 1) ≤ (gi x v0 2) then ff_RE_readFigures_76 x v0 else (if ixb (gi x v0 2) (ln (rf v0 0)) = true then bnd (ff_RE_isFigure x (gi x (rf v0 0) (ix (gi x v0 2)))) (fun r_6 x_7 => (if r_6 = 0 then ff_RE_readFigures_76 x_7 v0 else (if 2 ≤ ((gi x_7 v0 2) - (gi x_7 v0 6)) then st (si x_7 v0 2 ((gi x_7 v0 2) + 1)) (fun x_11 => ff_RE_readFigures_0 n x_11 v0) else (if ixb (gi x_7 v0 2) (ln (rf v0 0)) = true then st (si x_7 v0 7 (((10 * (gi x_7 v0 7)) + (gi x_7 (rf v0 0) (ix (gi x_7 v0 2)))) - 48)) (fun x_13 => st (si x_13 v0 2 ((gi x_13 v0 2) + 1)) (fun x_14 => ff_RE_readFigures_0 n x_14 v0)) else none)))) else none)) = some (r, x') := hf
    refine lv_aload_n hx hb dd_RE_readFigures_0 rfl (lv_at hl 0 rfl) ?_
    refine gf_RE_32 C0 hP ho_v0 dd_RE_readFigures_1 ?_
    refine lv_aload_n hx hb dd_RE_readFigures_4 rfl (lv_at hl 0 rfl) ?_
    refine gf_RE_26 C0 hP ho_v0 dd_RE_readFigures_5 ?_
    refine lv_icmp_ge (tgt := 76) hx hb dd_RE_readFigures_8 (by decide) (fun h_1 => ?_) (fun h_1 => ?_)
    · have hf := (if_pos h_1).symm.trans hf
      exact ww_RE_readFigures_76 C0 hap  ho_v0 hf hP hS (lv_sub hl [0] rfl)
    · have hf := (if_neg h_1).symm.trans hf
      refine lv_aload_n hx hb dd_RE_readFigures_11 rfl (lv_at hl 0 rfl) ?_
      refine gf_RE_9 C0 hP ho_v0 dd_RE_readFigures_12 ?_
      refine lv_aload_n hx hb dd_RE_readFigures_15 rfl (lv_at hl 0 rfl) ?_
      refine gf_RE_32 C0 hP ho_v0 dd_RE_readFigures_16 ?_
      obtain ⟨h_5, hf⟩ := of_ifb hf
      refine raI C0 hP (tp_3_0 ho_v0) h_5 dd_RE_readFigures_19 ?_
      obtain ⟨r_6, x_7, c_8, hf⟩ := of_bnd hf
      refine cl_RE_152 C0 hap  c_8 hP hS ⟨Nat.le_of_ble_eq_true rfl, Nat.le_of_ble_eq_true rfl⟩ hl.1 (Nat.le_of_ble_eq_true rfl) dd_RE_readFigures_20 ⟨Nat.le_refl _, Nat.le_refl _⟩ (fun H locs hP hS => ?_)
      refine lv_if_eq (tgt := 76) hx hb dd_RE_readFigures_23 (by decide) (fun h_9 => ?_) (fun h_9 => ?_)
      · have hf := (if_pos h_9).symm.trans hf
        exact ww_RE_readFigures_76 C0 hap  ho_v0 hf hP hS (lv_sub hl [0] rfl)
      · have hf := (if_neg h_9).symm.trans hf
        refine lv_aload_n hx hb dd_RE_readFigures_26 rfl (lv_at hl 0 rfl) ?_
        refine gf_RE_32 C0 hP ho_v0 dd_RE_readFigures_27 ?_
        refine lv_aload_n hx hb dd_RE_readFigures_30 rfl (lv_at hl 0 rfl) ?_
        refine gf_RE_142 C0 hP ho_v0 dd_RE_readFigures_31 ?_
        refine lv_isub hx hb dd_RE_readFigures_34 ?_
        refine lv_iconst (v := 2) hx hb dd_RE_readFigures_35 (by decide) ?_
        refine lv_icmp_ge (tgt := 63) hx hb dd_RE_readFigures_36 (by decide) (fun h_10 => ?_) (fun h_10 => ?_)
        · have hf := (if_pos h_10).symm.trans hf
          refine lv_aload_n hx hb dd_RE_readFigures_63 rfl (lv_at hl 0 rfl) ?_
          refine lv_dup hx hb dd_RE_readFigures_64 rfl ?_
          refine gf_RE_32 C0 hP ho_v0 dd_RE_readFigures_65 ?_
          refine lv_iconst (v := 1) hx hb dd_RE_readFigures_68 (by decide) ?_
          refine lv_iadd hx hb dd_RE_readFigures_69 ?_
          obtain ⟨x_11, hx_11, hf⟩ := of_st hf
          refine pf_RE_32 C0 hap hP hS ho_v0 hx_11 dd_RE_readFigures_70 (fun H locs hP hS => ?_)
          refine lv_goto (tgt := 0) hx hb dd_RE_readFigures_73 (by decide) ?_
          exact ih x_11 v0 ho_v0 hf _ _ _ hP hS (lv_sub hl [0] rfl)
        · have hf := (if_neg h_10).symm.trans hf
          refine lv_aload_n hx hb dd_RE_readFigures_39 rfl (lv_at hl 0 rfl) ?_
          refine lv_bipush (v := 10) hx hb dd_RE_readFigures_40 (by decide) ?_
          refine lv_aload_n hx hb dd_RE_readFigures_42 rfl (lv_at hl 0 rfl) ?_
          refine gf_RE_120 C0 hP ho_v0 dd_RE_readFigures_43 ?_
          refine lv_imul hx hb dd_RE_readFigures_46 ?_
          refine lv_aload_n hx hb dd_RE_readFigures_47 rfl (lv_at hl 0 rfl) ?_
          refine gf_RE_9 C0 hP ho_v0 dd_RE_readFigures_48 ?_
          refine lv_aload_n hx hb dd_RE_readFigures_51 rfl (lv_at hl 0 rfl) ?_
          refine gf_RE_32 C0 hP ho_v0 dd_RE_readFigures_52 ?_
          obtain ⟨h_12, hf⟩ := of_ifb hf
          refine raI C0 hP (tp_3_0 ho_v0) h_12 dd_RE_readFigures_55 ?_
          refine lv_iadd hx hb dd_RE_readFigures_56 ?_
          refine lv_bipush (v := 48) hx hb dd_RE_readFigures_57 (by decide) ?_
          refine lv_isub hx hb dd_RE_readFigures_59 ?_
          obtain ⟨x_13, hx_13, hf⟩ := of_st hf
          refine pf_RE_120 C0 hap hP hS ho_v0 hx_13 dd_RE_readFigures_60 (fun H locs hP hS => ?_)
          refine lv_aload_n hx hb dd_RE_readFigures_63 rfl (lv_at hl 0 rfl) ?_
          refine lv_dup hx hb dd_RE_readFigures_64 rfl ?_
          refine gf_RE_32 C0 hP ho_v0 dd_RE_readFigures_65 ?_
          refine lv_iconst (v := 1) hx hb dd_RE_readFigures_68 (by decide) ?_
          refine lv_iadd hx hb dd_RE_readFigures_69 ?_
          obtain ⟨x_14, hx_14, hf⟩ := of_st hf
          refine pf_RE_32 C0 hap hP hS ho_v0 hx_14 dd_RE_readFigures_70 (fun H locs hP hS => ?_)
          refine lv_goto (tgt := 0) hx hb dd_RE_readFigures_73 (by decide) ?_
          exact ih x_14 v0 ho_v0 hf _ _ _ hP hS (lv_sub hl [0] rfl)
theorem cc_RE_readFigures {l : Launch} {E : Ev} {A : Nat → Prop} {ad : Nat → Nat} (hap : Ap ad ixC A) {x x' : St} {v0 : Nat} {r : Unit} (ho_v0 : isO ixC v0 3) (hf : ff_RE_readFigures x v0 = some (r, x')) : Met l yy_RE_readFigures (Cond.code yy_RE_readFigures bb_RE_readFigures 1 (none) :: gtb) rm_RE_readFigures (va_Pc [.ref (ad v0)] (PB E A ad ixC x)) (QX E ad ixC A (none) x') 0 0 A := by
  exact enter (by decide) (Nat.le_of_ble_eq_true rfl) (fun p e s m below meth c ls C0 hP hS hl => ww_RE_readFigures_0 C0 hap FU x v0 ho_v0 hf _ _ _ hP hS hl)
theorem cl_RE_149 {p : Program} {l : Launch} {e : Env} {R : Room} {s : State} {m : MethodId} {args : Array Value} {below : List Frame} {meth : Method} {c : Code} {H : Heap} {locs : List Loc} {cells slots : Nat} {Q : State → Prop} {cc : ByteArray} {pc : Nat} {ls : Array Slot} {rest : List Value} {E : Ev} {A : Nat → Prop} {ad : Nat → Nat} {nL : Nat} {rt : Option FieldType} (C0 : Cx E A RRE cc nL rt p s m args meth c) (hap : Ap ad ixC A) {x x' : St} {v0 : Nat} {r : Unit} (ho_v0 : isO ixC v0 3) (hc : ff_RE_readLetters x v0 = some (r, x')) (hP : Wd E ad ixC x H) (hS : va_S A s.heap H locs) (hR : rm_RE_readLetters.frames + 1 ≤ R.frames ∧ 8 + (1 + 11) + rm_RE_readLetters.locals ≤ R.locals) (hls : ls.size = nL) (hroom : (rest.map fun v => v.category).sum ≤ 8) (hdg : decode cc pc = .ok (.invokevirtual 149, 3)) (hf : cells ≤ R.cells ∧ slots ≤ R.slots) (kk : ∀ H1 locs1, Wd E ad ixC x' H1 → va_S A s.heap H1 locs1 → W p l e R s m args below meth c H1 locs1 cells slots Q (F0 m (pc + 3) ls (rest))) : W p l e R s m args below meth c H locs cells slots Q (F0 m pc ls (.ref (ad v0) :: rest)) :=
  rcV (n := 0) C0 (cc_RE_readLetters hap ho_v0 hc) hP hS ho_v0 vcl_3 (by decide) gw_code_RE_readLetters gw_m_RE_149 gw_inst_RE_readLetters gw_sel_RE_readLetters gw_ini_RE rfl rfl (by decide +kernel) rfl hR hls rfl hroom hdg hf (fun H1 locs1 a _ _ b => kk H1 locs1 a b)
theorem cl_RE_155 {p : Program} {l : Launch} {e : Env} {R : Room} {s : State} {m : MethodId} {args : Array Value} {below : List Frame} {meth : Method} {c : Code} {H : Heap} {locs : List Loc} {cells slots : Nat} {Q : State → Prop} {cc : ByteArray} {pc : Nat} {ls : Array Slot} {rest : List Value} {E : Ev} {A : Nat → Prop} {ad : Nat → Nat} {nL : Nat} {rt : Option FieldType} (C0 : Cx E A RRE cc nL rt p s m args meth c) (hap : Ap ad ixC A) {x x' : St} {v0 : Nat} {r : Unit} (ho_v0 : isO ixC v0 3) (hc : ff_RE_readFigures x v0 = some (r, x')) (hP : Wd E ad ixC x H) (hS : va_S A s.heap H locs) (hR : rm_RE_readFigures.frames + 1 ≤ R.frames ∧ 8 + (1 + 11) + rm_RE_readFigures.locals ≤ R.locals) (hls : ls.size = nL) (hroom : (rest.map fun v => v.category).sum ≤ 8) (hdg : decode cc pc = .ok (.invokevirtual 155, 3)) (hf : cells ≤ R.cells ∧ slots ≤ R.slots) (kk : ∀ H1 locs1, Wd E ad ixC x' H1 → va_S A s.heap H1 locs1 → W p l e R s m args below meth c H1 locs1 cells slots Q (F0 m (pc + 3) ls (rest))) : W p l e R s m args below meth c H locs cells slots Q (F0 m pc ls (.ref (ad v0) :: rest)) :=
  rcV (n := 0) C0 (cc_RE_readFigures hap ho_v0 hc) hP hS ho_v0 vcl_3 (by decide) gw_code_RE_readFigures gw_m_RE_155 gw_inst_RE_readFigures gw_sel_RE_readFigures gw_ini_RE rfl rfl (by decide +kernel) rfl hR hls rfl hroom hdg hf (fun H1 locs1 a _ _ b => kk H1 locs1 a b)
abbrev rm_RE_nextToken : Room := { frames := 2, cells := 0, slots := 0, locals := 40 }
theorem dd_RE_nextToken_0 : decode bb_RE_nextToken 0 = .ok (.aload_n 0, 1) := by decide +kernel
theorem dd_RE_nextToken_1 : decode bb_RE_nextToken 1 = .ok (.getfield 32, 3) := by decide +kernel
theorem dd_RE_nextToken_4 : decode bb_RE_nextToken 4 = .ok (.aload_n 0, 1) := by decide +kernel
theorem dd_RE_nextToken_5 : decode bb_RE_nextToken 5 = .ok (.getfield 26, 3) := by decide +kernel
theorem dd_RE_nextToken_8 : decode bb_RE_nextToken 8 = .ok (.if_icmp .ge 30, 3) := by decide +kernel
theorem dd_RE_nextToken_11 : decode bb_RE_nextToken 11 = .ok (.aload_n 0, 1) := by decide +kernel
theorem dd_RE_nextToken_12 : decode bb_RE_nextToken 12 = .ok (.getfield 9, 3) := by decide +kernel
theorem dd_RE_nextToken_15 : decode bb_RE_nextToken 15 = .ok (.aload_n 0, 1) := by decide +kernel
theorem dd_RE_nextToken_16 : decode bb_RE_nextToken 16 = .ok (.getfield 32, 3) := by decide +kernel
theorem dd_RE_nextToken_19 : decode bb_RE_nextToken 19 = .ok (.iaload, 1) := by decide +kernel
theorem dd_RE_nextToken_20 : decode bb_RE_nextToken 20 = .ok (.bipush 32, 2) := by decide +kernel
theorem dd_RE_nextToken_22 : decode bb_RE_nextToken 22 = .ok (.if_icmp .ne 16, 3) := by decide +kernel
theorem dd_RE_nextToken_25 : decode bb_RE_nextToken 25 = .ok (.aload_n 0, 1) := by decide +kernel
theorem dd_RE_nextToken_26 : decode bb_RE_nextToken 26 = .ok (.dup, 1) := by decide +kernel
theorem dd_RE_nextToken_27 : decode bb_RE_nextToken 27 = .ok (.getfield 32, 3) := by decide +kernel
theorem dd_RE_nextToken_30 : decode bb_RE_nextToken 30 = .ok (.iconst 1, 1) := by decide +kernel
theorem dd_RE_nextToken_31 : decode bb_RE_nextToken 31 = .ok (.iadd, 1) := by decide +kernel
theorem dd_RE_nextToken_32 : decode bb_RE_nextToken 32 = .ok (.putfield 32, 3) := by decide +kernel
theorem dd_RE_nextToken_35 : decode bb_RE_nextToken 35 = .ok (.goto (-35), 3) := by decide +kernel
theorem dd_RE_nextToken_38 : decode bb_RE_nextToken 38 = .ok (.aload_n 0, 1) := by decide +kernel
theorem dd_RE_nextToken_39 : decode bb_RE_nextToken 39 = .ok (.aload_n 0, 1) := by decide +kernel
theorem dd_RE_nextToken_40 : decode bb_RE_nextToken 40 = .ok (.getfield 32, 3) := by decide +kernel
theorem dd_RE_nextToken_43 : decode bb_RE_nextToken 43 = .ok (.putfield 142, 3) := by decide +kernel
theorem dd_RE_nextToken_46 : decode bb_RE_nextToken 46 = .ok (.aload_n 0, 1) := by decide +kernel
theorem dd_RE_nextToken_47 : decode bb_RE_nextToken 47 = .ok (.iconst 0, 1) := by decide +kernel
theorem dd_RE_nextToken_48 : decode bb_RE_nextToken 48 = .ok (.putfield 120, 3) := by decide +kernel
theorem dd_RE_nextToken_51 : decode bb_RE_nextToken 51 = .ok (.aload_n 0, 1) := by decide +kernel
theorem dd_RE_nextToken_52 : decode bb_RE_nextToken 52 = .ok (.getfield 32, 3) := by decide +kernel
theorem dd_RE_nextToken_55 : decode bb_RE_nextToken 55 = .ok (.aload_n 0, 1) := by decide +kernel
theorem dd_RE_nextToken_56 : decode bb_RE_nextToken 56 = .ok (.getfield 26, 3) := by decide +kernel
theorem dd_RE_nextToken_59 : decode bb_RE_nextToken 59 = .ok (.if_icmp .lt 11, 3) := by decide +kernel
theorem dd_RE_nextToken_62 : decode bb_RE_nextToken 62 = .ok (.aload_n 0, 1) := by decide +kernel
theorem dd_RE_nextToken_63 : decode bb_RE_nextToken 63 = .ok (.iconst 0, 1) := by decide +kernel
theorem dd_RE_nextToken_64 : decode bb_RE_nextToken 64 = .ok (.putfield 38, 3) := by decide +kernel
theorem dd_RE_nextToken_67 : decode bb_RE_nextToken 67 = .ok (.goto 80, 3) := by decide +kernel
theorem dd_RE_nextToken_70 : decode bb_RE_nextToken 70 = .ok (.aload_n 0, 1) := by decide +kernel
theorem dd_RE_nextToken_71 : decode bb_RE_nextToken 71 = .ok (.getfield 9, 3) := by decide +kernel
theorem dd_RE_nextToken_74 : decode bb_RE_nextToken 74 = .ok (.aload_n 0, 1) := by decide +kernel
theorem dd_RE_nextToken_75 : decode bb_RE_nextToken 75 = .ok (.getfield 32, 3) := by decide +kernel
theorem dd_RE_nextToken_78 : decode bb_RE_nextToken 78 = .ok (.iaload, 1) := by decide +kernel
theorem dd_RE_nextToken_79 : decode bb_RE_nextToken 79 = .ok (.invokestatic 145, 3) := by decide +kernel
theorem dd_RE_nextToken_82 : decode bb_RE_nextToken 82 = .ok (.ifCond .eq 10, 3) := by decide +kernel
theorem dd_RE_nextToken_85 : decode bb_RE_nextToken 85 = .ok (.aload_n 0, 1) := by decide +kernel
theorem dd_RE_nextToken_86 : decode bb_RE_nextToken 86 = .ok (.invokevirtual 149, 3) := by decide +kernel
theorem dd_RE_nextToken_89 : decode bb_RE_nextToken 89 = .ok (.goto 58, 3) := by decide +kernel
theorem dd_RE_nextToken_92 : decode bb_RE_nextToken 92 = .ok (.aload_n 0, 1) := by decide +kernel
theorem dd_RE_nextToken_93 : decode bb_RE_nextToken 93 = .ok (.getfield 9, 3) := by decide +kernel
theorem dd_RE_nextToken_96 : decode bb_RE_nextToken 96 = .ok (.aload_n 0, 1) := by decide +kernel
theorem dd_RE_nextToken_97 : decode bb_RE_nextToken 97 = .ok (.getfield 32, 3) := by decide +kernel
theorem dd_RE_nextToken_100 : decode bb_RE_nextToken 100 = .ok (.iaload, 1) := by decide +kernel
theorem dd_RE_nextToken_101 : decode bb_RE_nextToken 101 = .ok (.invokestatic 152, 3) := by decide +kernel
theorem dd_RE_nextToken_104 : decode bb_RE_nextToken 104 = .ok (.ifCond .eq 10, 3) := by decide +kernel
theorem dd_RE_nextToken_107 : decode bb_RE_nextToken 107 = .ok (.aload_n 0, 1) := by decide +kernel
theorem dd_RE_nextToken_108 : decode bb_RE_nextToken 108 = .ok (.invokevirtual 155, 3) := by decide +kernel
theorem dd_RE_nextToken_111 : decode bb_RE_nextToken 111 = .ok (.goto 36, 3) := by decide +kernel
theorem dd_RE_nextToken_114 : decode bb_RE_nextToken 114 = .ok (.aload_n 0, 1) := by decide +kernel
theorem dd_RE_nextToken_115 : decode bb_RE_nextToken 115 = .ok (.aload_n 0, 1) := by decide +kernel
theorem dd_RE_nextToken_116 : decode bb_RE_nextToken 116 = .ok (.getfield 9, 3) := by decide +kernel
theorem dd_RE_nextToken_119 : decode bb_RE_nextToken 119 = .ok (.aload_n 0, 1) := by decide +kernel
theorem dd_RE_nextToken_120 : decode bb_RE_nextToken 120 = .ok (.getfield 32, 3) := by decide +kernel
theorem dd_RE_nextToken_123 : decode bb_RE_nextToken 123 = .ok (.iaload, 1) := by decide +kernel
theorem dd_RE_nextToken_124 : decode bb_RE_nextToken 124 = .ok (.bipush 59, 2) := by decide +kernel
theorem dd_RE_nextToken_126 : decode bb_RE_nextToken 126 = .ok (.if_icmp .ne 7, 3) := by decide +kernel
theorem dd_RE_nextToken_129 : decode bb_RE_nextToken 129 = .ok (.iconst 3, 1) := by decide +kernel
theorem dd_RE_nextToken_130 : decode bb_RE_nextToken 130 = .ok (.goto 4, 3) := by decide +kernel
theorem dd_RE_nextToken_133 : decode bb_RE_nextToken 133 = .ok (.iconst 4, 1) := by decide +kernel
theorem dd_RE_nextToken_134 : decode bb_RE_nextToken 134 = .ok (.putfield 38, 3) := by decide +kernel
theorem dd_RE_nextToken_137 : decode bb_RE_nextToken 137 = .ok (.aload_n 0, 1) := by decide +kernel
theorem dd_RE_nextToken_138 : decode bb_RE_nextToken 138 = .ok (.dup, 1) := by decide +kernel
theorem dd_RE_nextToken_139 : decode bb_RE_nextToken 139 = .ok (.getfield 32, 3) := by decide +kernel
theorem dd_RE_nextToken_142 : decode bb_RE_nextToken 142 = .ok (.iconst 1, 1) := by decide +kernel
theorem dd_RE_nextToken_143 : decode bb_RE_nextToken 143 = .ok (.iadd, 1) := by decide +kernel
theorem dd_RE_nextToken_144 : decode bb_RE_nextToken 144 = .ok (.putfield 32, 3) := by decide +kernel
theorem dd_RE_nextToken_147 : decode bb_RE_nextToken 147 = .ok (.return_, 1) := by decide +kernel
def ff_RE_nextToken_38  (x : St) (v0 : Nat) : Option (Unit × St) := st (si x v0 6 (gi x v0 2)) (fun x_2 => st (si x_2 v0 7 0) (fun x_3 => (if (gi x_3 v0 2) < (gi x_3 v0 1) then (if ixb (gi x_3 v0 2) (ln (rf v0 0)) = true then bnd (ff_RE_isLetter x_3 (gi x_3 (rf v0 0) (ix (gi x_3 v0 2)))) (fun r_6 x_7 => (if r_6 = 0 then (if ixb (gi x_7 v0 2) (ln (rf v0 0)) = true then bnd (ff_RE_isFigure x_7 (gi x_7 (rf v0 0) (ix (gi x_7 v0 2)))) (fun r_11 x_12 => (if r_11 = 0 then (if ixb (gi x_12 v0 2) (ln (rf v0 0)) = true then (if (gi x_12 (rf v0 0) (ix (gi x_12 v0 2))) = 59 then st (si x_12 v0 5 3) (fun x_19 => st (si x_19 v0 2 ((gi x_19 v0 2) + 1)) (fun x_20 => some ((), x_20))) else st (si x_12 v0 5 4) (fun x_17 => st (si x_17 v0 2 ((gi x_17 v0 2) + 1)) (fun x_18 => some ((), x_18)))) else none) else bnd (ff_RE_readFigures x_12 v0) (fun _ x_22 => some ((), x_22)))) else none) else bnd (ff_RE_readLetters x_7 v0) (fun _ x_25 => some ((), x_25)))) else none) else st (si x_3 v0 5 0) (fun x_27 => some ((), x_27)))))
def ff_RE_nextToken_0  : Nat → St → Nat → Option (Unit × St)
  | 0, _, _ => none
  | n + 1, x, v0 => (if (gi x v0 1) ≤ (gi x v0 2) then ff_RE_nextToken_38 x v0 else (if ixb (gi x v0 2) (ln (rf v0 0)) = true then (if (gi x (rf v0 0) (ix (gi x v0 2))) = 32 then st (si x v0 2 ((gi x v0 2) + 1)) (fun x_30 => ff_RE_nextToken_0 n x_30 v0) else ff_RE_nextToken_38 x v0) else none))
def ff_RE_nextToken (x : St) (v0 : Nat) : Option (Unit × St) := ff_RE_nextToken_0 FU x v0
set_option maxHeartbeats 4000000 in
set_option maxRecDepth 100000 in
theorem ww_RE_nextToken_38 {p : Program} {l : Launch} {e : Env} {s : State} {m : MethodId} {args : Array Value} {below : List Frame} {meth : Method} {c : Code} {E : Ev} {A : Nat → Prop} {ad : Nat → Nat} {r : Unit} {x' : St} (C0 : Cx E A RRE bb_RE_nextToken 1 (none) p s m args meth c) (hap : Ap ad ixC A)  {x : St} {v0 : Nat} (ho_v0 : isO ixC v0 3) (hf : ff_RE_nextToken_38 x v0 = some (r, x')) {H : Heap} {locs : List Loc} {ls : Array Slot} (hP : Wd E ad ixC x H) (hS : va_S A s.heap H locs) (hl : lv_has ls 1 [(0, .ref (ad v0))]) : W p l e rm_RE_nextToken s m args below meth c H locs 0 0 (MQ below (QX E ad ixC A (none) x') args s 0 0 A) (F0 m 38 ls []) := by
  obtain ⟨hx, hb, hml, hr, hown, hts, hlk, hK⟩ := id C0
  have hf : st (si x v0 6 (gi x v0 2)) (fun x_2 => st (si x_2 v0 7 0) (fun x_3 => (if (gi x_3 v0 2) < (gi x_3 v0 1) then (if ixb (gi x_3 v0 2) (ln (rf v0 0)) = true then bnd (ff_RE_isLetter x_3 (gi x_3 (rf v0 0) (ix (gi x_3 v0 2)))) (fun r_6 x_7 => (if r_6 = 0 then (if ixb (gi x_7 v0 2) (ln (rf v0 0)) = true then bnd (ff_RE_isFigure x_7 (gi x_7 (rf v0 0) (ix (gi x_7 v0 2)))) (fun r_11 x_12 => (if r_11 = 0 then (if ixb (gi x_12 v0 2) (ln (rf v0 0)) = true then (if (gi x_12 (rf v0 0) (ix (gi x_12 v0 2))) = 59 then st (si x_12 v0 5 3) (fun x_19 => st (si x_19 v0 2 ((gi x_19 v0 2) + 1)) (fun x_20 => some ((), x_20))) else st (si x_12 v0 5 4) (fun x_17 => st (si x_17 v0 2 ((gi x_17 v0 2) + 1)) (fun x_18 => some ((), x_18)))) else none) else bnd (ff_RE_readFigures x_12 v0) (fun _ x_22 => some ((), x_22)))) else none) else bnd (ff_RE_readLetters x_7 v0) (fun _ x_25 => some ((), x_25)))) else none) else st (si x_3 v0 5 0) (fun x_27 => some ((), x_27))))) = some (r, x') := hf
  refine lv_aload_n hx hb dd_RE_nextToken_38 rfl (lv_at hl 0 rfl) ?_
  refine lv_aload_n hx hb dd_RE_nextToken_39 rfl (lv_at hl 0 rfl) ?_
  refine gf_RE_32 C0 hP ho_v0 dd_RE_nextToken_40 ?_
  obtain ⟨x_2, hx_2, hf⟩ := of_st hf
  refine pf_RE_142 C0 hap hP hS ho_v0 hx_2 dd_RE_nextToken_43 (fun H locs hP hS => ?_)
  refine lv_aload_n hx hb dd_RE_nextToken_46 rfl (lv_at hl 0 rfl) ?_
  refine lv_iconst (v := 0) hx hb dd_RE_nextToken_47 (by decide) ?_
  obtain ⟨x_3, hx_3, hf⟩ := of_st hf
  refine pf_RE_120 C0 hap hP hS ho_v0 hx_3 dd_RE_nextToken_48 (fun H locs hP hS => ?_)
  refine lv_aload_n hx hb dd_RE_nextToken_51 rfl (lv_at hl 0 rfl) ?_
  refine gf_RE_32 C0 hP ho_v0 dd_RE_nextToken_52 ?_
  refine lv_aload_n hx hb dd_RE_nextToken_55 rfl (lv_at hl 0 rfl) ?_
  refine gf_RE_26 C0 hP ho_v0 dd_RE_nextToken_56 ?_
  refine lv_icmp_lt (tgt := 70) hx hb dd_RE_nextToken_59 (by decide) (fun h_4 => ?_) (fun h_4 => ?_)
  · have hf := (if_pos h_4).symm.trans hf
    refine lv_aload_n hx hb dd_RE_nextToken_70 rfl (lv_at hl 0 rfl) ?_
    refine gf_RE_9 C0 hP ho_v0 dd_RE_nextToken_71 ?_
    refine lv_aload_n hx hb dd_RE_nextToken_74 rfl (lv_at hl 0 rfl) ?_
    refine gf_RE_32 C0 hP ho_v0 dd_RE_nextToken_75 ?_
    obtain ⟨h_5, hf⟩ := of_ifb hf
    refine raI C0 hP (tp_3_0 ho_v0) h_5 dd_RE_nextToken_78 ?_
    obtain ⟨r_6, x_7, c_8, hf⟩ := of_bnd hf
    refine cl_RE_145 C0 hap  c_8 hP hS ⟨Nat.le_of_ble_eq_true rfl, Nat.le_of_ble_eq_true rfl⟩ hl.1 (Nat.le_of_ble_eq_true rfl) dd_RE_nextToken_79 ⟨Nat.le_refl _, Nat.le_refl _⟩ (fun H locs hP hS => ?_)
    refine lv_if_eq (tgt := 92) hx hb dd_RE_nextToken_82 (by decide) (fun h_9 => ?_) (fun h_9 => ?_)
    · have hf := (if_pos h_9).symm.trans hf
      refine lv_aload_n hx hb dd_RE_nextToken_92 rfl (lv_at hl 0 rfl) ?_
      refine gf_RE_9 C0 hP ho_v0 dd_RE_nextToken_93 ?_
      refine lv_aload_n hx hb dd_RE_nextToken_96 rfl (lv_at hl 0 rfl) ?_
      refine gf_RE_32 C0 hP ho_v0 dd_RE_nextToken_97 ?_
      obtain ⟨h_10, hf⟩ := of_ifb hf
      refine raI C0 hP (tp_3_0 ho_v0) h_10 dd_RE_nextToken_100 ?_
      obtain ⟨r_11, x_12, c_13, hf⟩ := of_bnd hf
      refine cl_RE_152 C0 hap  c_13 hP hS ⟨Nat.le_of_ble_eq_true rfl, Nat.le_of_ble_eq_true rfl⟩ hl.1 (Nat.le_of_ble_eq_true rfl) dd_RE_nextToken_101 ⟨Nat.le_refl _, Nat.le_refl _⟩ (fun H locs hP hS => ?_)
      refine lv_if_eq (tgt := 114) hx hb dd_RE_nextToken_104 (by decide) (fun h_14 => ?_) (fun h_14 => ?_)
      · have hf := (if_pos h_14).symm.trans hf
        refine lv_aload_n hx hb dd_RE_nextToken_114 rfl (lv_at hl 0 rfl) ?_
        refine lv_aload_n hx hb dd_RE_nextToken_115 rfl (lv_at hl 0 rfl) ?_
        refine gf_RE_9 C0 hP ho_v0 dd_RE_nextToken_116 ?_
        refine lv_aload_n hx hb dd_RE_nextToken_119 rfl (lv_at hl 0 rfl) ?_
        refine gf_RE_32 C0 hP ho_v0 dd_RE_nextToken_120 ?_
        obtain ⟨h_15, hf⟩ := of_ifb hf
        refine raI C0 hP (tp_3_0 ho_v0) h_15 dd_RE_nextToken_123 ?_
        refine lv_bipush (v := 59) hx hb dd_RE_nextToken_124 (by decide) ?_
        refine lv_icmp_ne (tgt := 133) hx hb dd_RE_nextToken_126 (by decide) (fun h_16 => ?_) (fun h_16 => ?_)
        · have hf := (if_neg h_16).symm.trans hf
          refine lv_iconst (v := 4) hx hb dd_RE_nextToken_133 (by decide) ?_
          obtain ⟨x_17, hx_17, hf⟩ := of_st hf
          refine pf_RE_38 C0 hap hP hS ho_v0 hx_17 dd_RE_nextToken_134 (fun H locs hP hS => ?_)
          refine lv_aload_n hx hb dd_RE_nextToken_137 rfl (lv_at hl 0 rfl) ?_
          refine lv_dup hx hb dd_RE_nextToken_138 rfl ?_
          refine gf_RE_32 C0 hP ho_v0 dd_RE_nextToken_139 ?_
          refine lv_iconst (v := 1) hx hb dd_RE_nextToken_142 (by decide) ?_
          refine lv_iadd hx hb dd_RE_nextToken_143 ?_
          obtain ⟨x_18, hx_18, hf⟩ := of_st hf
          refine pf_RE_32 C0 hap hP hS ho_v0 hx_18 dd_RE_nextToken_144 (fun H locs hP hS => ?_)
          exact rrV C0 hP hS dd_RE_nextToken_147 hf
        · have hf := (if_pos h_16).symm.trans hf
          refine lv_iconst (v := 3) hx hb dd_RE_nextToken_129 (by decide) ?_
          refine lv_goto (tgt := 134) hx hb dd_RE_nextToken_130 (by decide) ?_
          obtain ⟨x_19, hx_19, hf⟩ := of_st hf
          refine pf_RE_38 C0 hap hP hS ho_v0 hx_19 dd_RE_nextToken_134 (fun H locs hP hS => ?_)
          refine lv_aload_n hx hb dd_RE_nextToken_137 rfl (lv_at hl 0 rfl) ?_
          refine lv_dup hx hb dd_RE_nextToken_138 rfl ?_
          refine gf_RE_32 C0 hP ho_v0 dd_RE_nextToken_139 ?_
          refine lv_iconst (v := 1) hx hb dd_RE_nextToken_142 (by decide) ?_
          refine lv_iadd hx hb dd_RE_nextToken_143 ?_
          obtain ⟨x_20, hx_20, hf⟩ := of_st hf
          refine pf_RE_32 C0 hap hP hS ho_v0 hx_20 dd_RE_nextToken_144 (fun H locs hP hS => ?_)
          exact rrV C0 hP hS dd_RE_nextToken_147 hf
      · have hf := (if_neg h_14).symm.trans hf
        refine lv_aload_n hx hb dd_RE_nextToken_107 rfl (lv_at hl 0 rfl) ?_
        obtain ⟨_, x_22, c_23, hf⟩ := of_bnd hf
        refine cl_RE_155 C0 hap ho_v0 c_23 hP hS ⟨Nat.le_of_ble_eq_true rfl, Nat.le_of_ble_eq_true rfl⟩ hl.1 (Nat.le_of_ble_eq_true rfl) dd_RE_nextToken_108 ⟨Nat.le_refl _, Nat.le_refl _⟩ (fun H locs hP hS => ?_)
        refine lv_goto (tgt := 147) hx hb dd_RE_nextToken_111 (by decide) ?_
        exact rrV C0 hP hS dd_RE_nextToken_147 hf
    · have hf := (if_neg h_9).symm.trans hf
      refine lv_aload_n hx hb dd_RE_nextToken_85 rfl (lv_at hl 0 rfl) ?_
      obtain ⟨_, x_25, c_26, hf⟩ := of_bnd hf
      refine cl_RE_149 C0 hap ho_v0 c_26 hP hS ⟨Nat.le_of_ble_eq_true rfl, Nat.le_of_ble_eq_true rfl⟩ hl.1 (Nat.le_of_ble_eq_true rfl) dd_RE_nextToken_86 ⟨Nat.le_refl _, Nat.le_refl _⟩ (fun H locs hP hS => ?_)
      refine lv_goto (tgt := 147) hx hb dd_RE_nextToken_89 (by decide) ?_
      exact rrV C0 hP hS dd_RE_nextToken_147 hf
  · have hf := (if_neg h_4).symm.trans hf
    refine lv_aload_n hx hb dd_RE_nextToken_62 rfl (lv_at hl 0 rfl) ?_
    refine lv_iconst (v := 0) hx hb dd_RE_nextToken_63 (by decide) ?_
    obtain ⟨x_27, hx_27, hf⟩ := of_st hf
    refine pf_RE_38 C0 hap hP hS ho_v0 hx_27 dd_RE_nextToken_64 (fun H locs hP hS => ?_)
    refine lv_goto (tgt := 147) hx hb dd_RE_nextToken_67 (by decide) ?_
    exact rrV C0 hP hS dd_RE_nextToken_147 hf
set_option maxHeartbeats 4000000 in
set_option maxRecDepth 100000 in
theorem ww_RE_nextToken_0 {p : Program} {l : Launch} {e : Env} {s : State} {m : MethodId} {args : Array Value} {below : List Frame} {meth : Method} {c : Code} {E : Ev} {A : Nat → Prop} {ad : Nat → Nat} {r : Unit} {x' : St} (C0 : Cx E A RRE bb_RE_nextToken 1 (none) p s m args meth c) (hap : Ap ad ixC A)  : ∀ (n : Nat), ∀ (x : St) (v0 : Nat), (isO ixC v0 3) → ff_RE_nextToken_0 n x v0 = some (r, x') → ∀ (H : Heap) (locs : List Loc) (ls : Array Slot), Wd E ad ixC x H → va_S A s.heap H locs → lv_has ls 1 [(0, .ref (ad v0))] → W p l e rm_RE_nextToken s m args below meth c H locs 0 0 (MQ below (QX E ad ixC A (none) x') args s 0 0 A) (F0 m 0 ls []) := by
  obtain ⟨hx, hb, hml, hr, hown, hts, hlk, hK⟩ := id C0
  intro n
  induction n with
  | zero => intro x v0 ho_v0 hf; exact of_no hf
  | succ n ih =>
    intro x v0 ho_v0 hf H locs ls hP hS hl
    have hf : (if (gi x v0 1) ≤ (gi x v0 2) then ff_RE_nextToken_38 x v0 else (if ixb (gi x v0 2) (ln (rf v0 0)) = true then (if (gi x (rf v0 0) (ix (gi x v0 2))) = 32 then st (si x v0 2 ((gi x v0 2) + 1)) (fun x_30 => ff_RE_nextToken_0 n x_30 v0) else ff_RE_nextToken_38 x v0) else none)) = some (r, x') := hf
    refine lv_aload_n hx hb dd_RE_nextToken_0 rfl (lv_at hl 0 rfl) ?_
    refine gf_RE_32 C0 hP ho_v0 dd_RE_nextToken_1 ?_
    refine lv_aload_n hx hb dd_RE_nextToken_4 rfl (lv_at hl 0 rfl) ?_
    refine gf_RE_26 C0 hP ho_v0 dd_RE_nextToken_5 ?_
    refine lv_icmp_ge (tgt := 38) hx hb dd_RE_nextToken_8 (by decide) (fun h_1 => ?_) (fun h_1 => ?_)
    · have hf := (if_pos h_1).symm.trans hf
      exact ww_RE_nextToken_38 C0 hap  ho_v0 hf hP hS (lv_sub hl [0] rfl)
    · have hf := (if_neg h_1).symm.trans hf
      refine lv_aload_n hx hb dd_RE_nextToken_11 rfl (lv_at hl 0 rfl) ?_
      refine gf_RE_9 C0 hP ho_v0 dd_RE_nextToken_12 ?_
      refine lv_aload_n hx hb dd_RE_nextToken_15 rfl (lv_at hl 0 rfl) ?_
      refine gf_RE_32 C0 hP ho_v0 dd_RE_nextToken_16 ?_
      obtain ⟨h_28, hf⟩ := of_ifb hf
      refine raI C0 hP (tp_3_0 ho_v0) h_28 dd_RE_nextToken_19 ?_
      refine lv_bipush (v := 32) hx hb dd_RE_nextToken_20 (by decide) ?_
      refine lv_icmp_ne (tgt := 38) hx hb dd_RE_nextToken_22 (by decide) (fun h_29 => ?_) (fun h_29 => ?_)
      · have hf := (if_neg h_29).symm.trans hf
        exact ww_RE_nextToken_38 C0 hap  ho_v0 hf hP hS (lv_sub hl [0] rfl)
      · have hf := (if_pos h_29).symm.trans hf
        refine lv_aload_n hx hb dd_RE_nextToken_25 rfl (lv_at hl 0 rfl) ?_
        refine lv_dup hx hb dd_RE_nextToken_26 rfl ?_
        refine gf_RE_32 C0 hP ho_v0 dd_RE_nextToken_27 ?_
        refine lv_iconst (v := 1) hx hb dd_RE_nextToken_30 (by decide) ?_
        refine lv_iadd hx hb dd_RE_nextToken_31 ?_
        obtain ⟨x_30, hx_30, hf⟩ := of_st hf
        refine pf_RE_32 C0 hap hP hS ho_v0 hx_30 dd_RE_nextToken_32 (fun H locs hP hS => ?_)
        refine lv_goto (tgt := 0) hx hb dd_RE_nextToken_35 (by decide) ?_
        exact ih x_30 v0 ho_v0 hf _ _ _ hP hS (lv_sub hl [0] rfl)
theorem cc_RE_nextToken {l : Launch} {E : Ev} {A : Nat → Prop} {ad : Nat → Nat} (hap : Ap ad ixC A) {x x' : St} {v0 : Nat} {r : Unit} (ho_v0 : isO ixC v0 3) (hf : ff_RE_nextToken x v0 = some (r, x')) : Met l yy_RE_nextToken (Cond.code yy_RE_nextToken bb_RE_nextToken 1 (none) :: gtb) rm_RE_nextToken (va_Pc [.ref (ad v0)] (PB E A ad ixC x)) (QX E ad ixC A (none) x') 0 0 A := by
  exact enter (by decide) (Nat.le_of_ble_eq_true rfl) (fun p e s m below meth c ls C0 hP hS hl => ww_RE_nextToken_0 C0 hap FU x v0 ho_v0 hf _ _ _ hP hS hl)
theorem cl_RE_158 {p : Program} {l : Launch} {e : Env} {R : Room} {s : State} {m : MethodId} {args : Array Value} {below : List Frame} {meth : Method} {c : Code} {H : Heap} {locs : List Loc} {cells slots : Nat} {Q : State → Prop} {cc : ByteArray} {pc : Nat} {ls : Array Slot} {rest : List Value} {E : Ev} {A : Nat → Prop} {ad : Nat → Nat} {nL : Nat} {rt : Option FieldType} (C0 : Cx E A RRE cc nL rt p s m args meth c) (hap : Ap ad ixC A) {x x' : St} {v0 : Nat} {r : Int32} (ho_v0 : v0 < 7) (hc : ff_ST_length x v0 = some (r, x')) (hP : Wd E ad ixC x H) (hS : va_S A s.heap H locs) (hR : rm_ST_length.frames + 1 ≤ R.frames ∧ 8 + (1 + 11) + rm_ST_length.locals ≤ R.locals) (hls : ls.size = nL) (hroom : (rest.map fun v => v.category).sum ≤ 8) (hdg : decode cc pc = .ok (.invokevirtual 158, 3)) (hf : cells ≤ R.cells ∧ slots ≤ R.slots) (kk : ∀ H1 locs1, Wd E ad ixC x' H1 → va_S A s.heap H1 locs1 → W p l e R s m args below meth c H1 locs1 cells slots Q (F0 m (pc + 3) ls (.int r :: rest))) : W p l e R s m args below meth c H locs cells slots Q (F0 m pc ls (.ref (E.2.2.1 v0) :: rest)) :=
  rcVS (n := 0) C0 (cc_ST_length hap ho_v0 hc) hP hS ho_v0 gw_code_ST_length gw_m_RE_158 gw_inst_ST_length gw_sel_ST_length gw_ini_ST rfl rfl (by decide +kernel) rfl hR hls rfl hroom hdg hf kk
theorem cl_RE_162 {p : Program} {l : Launch} {e : Env} {R : Room} {s : State} {m : MethodId} {args : Array Value} {below : List Frame} {meth : Method} {c : Code} {H : Heap} {locs : List Loc} {cells slots : Nat} {Q : State → Prop} {cc : ByteArray} {pc : Nat} {ls : Array Slot} {rest : List Value} {E : Ev} {A : Nat → Prop} {ad : Nat → Nat} {nL : Nat} {rt : Option FieldType} (C0 : Cx E A RRE cc nL rt p s m args meth c) (hap : Ap ad ixC A) {x x' : St} {v0 : Nat} {v1 : Int32} {r : Int32} (ho_v0 : v0 < 7) (hc : ff_ST_charAt x v0 v1 = some (r, x')) (hP : Wd E ad ixC x H) (hS : va_S A s.heap H locs) (hR : rm_ST_charAt.frames + 1 ≤ R.frames ∧ 8 + (2 + 11) + rm_ST_charAt.locals ≤ R.locals) (hls : ls.size = nL) (hroom : (rest.map fun v => v.category).sum ≤ 8) (hdg : decode cc pc = .ok (.invokevirtual 162, 3)) (hf : cells ≤ R.cells ∧ slots ≤ R.slots) (kk : ∀ H1 locs1, Wd E ad ixC x' H1 → va_S A s.heap H1 locs1 → W p l e R s m args below meth c H1 locs1 cells slots Q (F0 m (pc + 3) ls (.int r :: rest))) : W p l e R s m args below meth c H locs cells slots Q (F0 m pc ls (.int v1 :: .ref (E.2.2.1 v0) :: rest)) :=
  rcVS (n := 1) C0 (cc_ST_charAt hap ho_v0 hc) hP hS ho_v0 gw_code_ST_charAt gw_m_RE_162 gw_inst_ST_charAt gw_sel_ST_charAt gw_ini_ST rfl rfl (by decide +kernel) rfl hR hls rfl hroom hdg hf kk
abbrev rm_RE_isWord : Room := { frames := 4, cells := 0, slots := 0, locals := 85 }
theorem dd_RE_isWord_0 : decode bb_RE_isWord 0 = .ok (.aload_n 0, 1) := by decide +kernel
theorem dd_RE_isWord_1 : decode bb_RE_isWord 1 = .ok (.getfield 38, 3) := by decide +kernel
theorem dd_RE_isWord_4 : decode bb_RE_isWord 4 = .ok (.iconst 1, 1) := by decide +kernel
theorem dd_RE_isWord_5 : decode bb_RE_isWord 5 = .ok (.if_icmp .ne 19, 3) := by decide +kernel
theorem dd_RE_isWord_8 : decode bb_RE_isWord 8 = .ok (.aload_n 0, 1) := by decide +kernel
theorem dd_RE_isWord_9 : decode bb_RE_isWord 9 = .ok (.getfield 32, 3) := by decide +kernel
theorem dd_RE_isWord_12 : decode bb_RE_isWord 12 = .ok (.aload_n 0, 1) := by decide +kernel
theorem dd_RE_isWord_13 : decode bb_RE_isWord 13 = .ok (.getfield 142, 3) := by decide +kernel
theorem dd_RE_isWord_16 : decode bb_RE_isWord 16 = .ok (.isub, 1) := by decide +kernel
theorem dd_RE_isWord_17 : decode bb_RE_isWord 17 = .ok (.aload_n 1, 1) := by decide +kernel
theorem dd_RE_isWord_18 : decode bb_RE_isWord 18 = .ok (.invokevirtual 158, 3) := by decide +kernel
theorem dd_RE_isWord_21 : decode bb_RE_isWord 21 = .ok (.if_icmp .eq 5, 3) := by decide +kernel
theorem dd_RE_isWord_24 : decode bb_RE_isWord 24 = .ok (.iconst 0, 1) := by decide +kernel
theorem dd_RE_isWord_25 : decode bb_RE_isWord 25 = .ok (.ireturn, 1) := by decide +kernel
theorem dd_RE_isWord_26 : decode bb_RE_isWord 26 = .ok (.iconst 0, 1) := by decide +kernel
theorem dd_RE_isWord_27 : decode bb_RE_isWord 27 = .ok (.istore_n 2, 1) := by decide +kernel
theorem dd_RE_isWord_28 : decode bb_RE_isWord 28 = .ok (.iload_n 2, 1) := by decide +kernel
theorem dd_RE_isWord_29 : decode bb_RE_isWord 29 = .ok (.aload_n 1, 1) := by decide +kernel
theorem dd_RE_isWord_30 : decode bb_RE_isWord 30 = .ok (.invokevirtual 158, 3) := by decide +kernel
theorem dd_RE_isWord_33 : decode bb_RE_isWord 33 = .ok (.if_icmp .ge 43, 3) := by decide +kernel
theorem dd_RE_isWord_36 : decode bb_RE_isWord 36 = .ok (.aload_n 0, 1) := by decide +kernel
theorem dd_RE_isWord_37 : decode bb_RE_isWord 37 = .ok (.getfield 142, 3) := by decide +kernel
theorem dd_RE_isWord_40 : decode bb_RE_isWord 40 = .ok (.iload_n 2, 1) := by decide +kernel
theorem dd_RE_isWord_41 : decode bb_RE_isWord 41 = .ok (.iadd, 1) := by decide +kernel
theorem dd_RE_isWord_42 : decode bb_RE_isWord 42 = .ok (.aload_n 0, 1) := by decide +kernel
theorem dd_RE_isWord_43 : decode bb_RE_isWord 43 = .ok (.getfield 26, 3) := by decide +kernel
theorem dd_RE_isWord_46 : decode bb_RE_isWord 46 = .ok (.if_icmp .ge 30, 3) := by decide +kernel
theorem dd_RE_isWord_49 : decode bb_RE_isWord 49 = .ok (.aload_n 0, 1) := by decide +kernel
theorem dd_RE_isWord_50 : decode bb_RE_isWord 50 = .ok (.getfield 9, 3) := by decide +kernel
theorem dd_RE_isWord_53 : decode bb_RE_isWord 53 = .ok (.aload_n 0, 1) := by decide +kernel
theorem dd_RE_isWord_54 : decode bb_RE_isWord 54 = .ok (.getfield 142, 3) := by decide +kernel
theorem dd_RE_isWord_57 : decode bb_RE_isWord 57 = .ok (.iload_n 2, 1) := by decide +kernel
theorem dd_RE_isWord_58 : decode bb_RE_isWord 58 = .ok (.iadd, 1) := by decide +kernel
theorem dd_RE_isWord_59 : decode bb_RE_isWord 59 = .ok (.iaload, 1) := by decide +kernel
theorem dd_RE_isWord_60 : decode bb_RE_isWord 60 = .ok (.aload_n 1, 1) := by decide +kernel
theorem dd_RE_isWord_61 : decode bb_RE_isWord 61 = .ok (.iload_n 2, 1) := by decide +kernel
theorem dd_RE_isWord_62 : decode bb_RE_isWord 62 = .ok (.invokevirtual 162, 3) := by decide +kernel
theorem dd_RE_isWord_65 : decode bb_RE_isWord 65 = .ok (.if_icmp .eq 5, 3) := by decide +kernel
theorem dd_RE_isWord_68 : decode bb_RE_isWord 68 = .ok (.iconst 0, 1) := by decide +kernel
theorem dd_RE_isWord_69 : decode bb_RE_isWord 69 = .ok (.ireturn, 1) := by decide +kernel
theorem dd_RE_isWord_70 : decode bb_RE_isWord 70 = .ok (.iinc 2 1, 3) := by decide +kernel
theorem dd_RE_isWord_73 : decode bb_RE_isWord 73 = .ok (.goto (-45), 3) := by decide +kernel
theorem dd_RE_isWord_76 : decode bb_RE_isWord 76 = .ok (.iconst 1, 1) := by decide +kernel
theorem dd_RE_isWord_77 : decode bb_RE_isWord 77 = .ok (.ireturn, 1) := by decide +kernel
def ff_RE_isWord_28  : Nat → St → Nat → Nat → Int32 → Option (Int32 × St)
  | 0, _, _, _, _ => none
  | n + 1, x, v0, v1, v2 => bnd (ff_ST_length x v1) (fun r_6 x_7 => (if r_6 ≤ v2 then some (1, x_7) else (if (gi x_7 v0 1) ≤ ((gi x_7 v0 6) + v2) then some (1, x_7) else (if ixb ((gi x_7 v0 6) + v2) (ln (rf v0 0)) = true then bnd (ff_ST_charAt x_7 v1 v2) (fun r_12 x_13 => (if (gi x_7 (rf v0 0) (ix ((gi x_7 v0 6) + v2))) = r_12 then ff_RE_isWord_28 n x_13 v0 v1 (v2 + 1) else some (0, x_13))) else none))))
def ff_RE_isWord  (x : St) (v0 : Nat) (v1 : Nat) : Option (Int32 × St) := (if (gi x v0 5) = 1 then bnd (ff_ST_length x v1) (fun r_2 x_3 => (if ((gi x v0 2) - (gi x v0 6)) = r_2 then ff_RE_isWord_28 FU x_3 v0 v1 0 else some (0, x_3))) else some (0, x))
set_option maxHeartbeats 4000000 in
set_option maxRecDepth 100000 in
theorem ww_RE_isWord_28 {p : Program} {l : Launch} {e : Env} {s : State} {m : MethodId} {args : Array Value} {below : List Frame} {meth : Method} {c : Code} {E : Ev} {A : Nat → Prop} {ad : Nat → Nat} {r : Int32} {x' : St} (C0 : Cx E A RRE bb_RE_isWord 3 (some .boolean) p s m args meth c) (hap : Ap ad ixC A)  : ∀ (n : Nat), ∀ (x : St) (v0 : Nat) (v1 : Nat) (v2 : Int32), (isO ixC v0 3) → (v1 < 7) → ff_RE_isWord_28 n x v0 v1 v2 = some (r, x') → ∀ (H : Heap) (locs : List Loc) (ls : Array Slot), Wd E ad ixC x H → va_S A s.heap H locs → lv_has ls 3 [(0, .ref (ad v0)), (1, .ref (E.2.2.1 v1)), (2, .int v2)] → W p l e rm_RE_isWord s m args below meth c H locs 0 0 (MQ below (QX E ad ixC A (some (.int r)) x') args s 0 0 A) (F0 m 28 ls []) := by
  obtain ⟨hx, hb, hml, hr, hown, hts, hlk, hK⟩ := id C0
  intro n
  induction n with
  | zero => intro x v0 v1 v2 ho_v0 ho_v1 hf; exact of_no hf
  | succ n ih =>
    intro x v0 v1 v2 ho_v0 ho_v1 hf H locs ls hP hS hl
    have hf : bnd (ff_ST_length x v1) (fun r_6 x_7 => (if r_6 ≤ v2 then some (1, x_7) else (if (gi x_7 v0 1) ≤ ((gi x_7 v0 6) + v2) then some (1, x_7) else (if ixb ((gi x_7 v0 6) + v2) (ln (rf v0 0)) = true then bnd (ff_ST_charAt x_7 v1 v2) (fun r_12 x_13 => (if (gi x_7 (rf v0 0) (ix ((gi x_7 v0 6) + v2))) = r_12 then ff_RE_isWord_28 n x_13 v0 v1 (v2 + 1) else some (0, x_13))) else none)))) = some (r, x') := hf
    refine lv_iload_n hx hb dd_RE_isWord_28 rfl (lv_at hl 2 rfl) ?_
    refine lv_aload_n hx hb dd_RE_isWord_29 rfl (lv_at hl 1 rfl) ?_
    obtain ⟨r_6, x_7, c_8, hf⟩ := of_bnd hf
    refine cl_RE_158 C0 hap ho_v1 c_8 hP hS ⟨Nat.le_of_ble_eq_true rfl, Nat.le_of_ble_eq_true rfl⟩ hl.1 (Nat.le_of_ble_eq_true rfl) dd_RE_isWord_30 ⟨Nat.le_refl _, Nat.le_refl _⟩ (fun H locs hP hS => ?_)
    refine lv_icmp_ge (tgt := 76) hx hb dd_RE_isWord_33 (by decide) (fun h_9 => ?_) (fun h_9 => ?_)
    · have hf := (if_pos h_9).symm.trans hf
      refine lv_iconst (v := 1) hx hb dd_RE_isWord_76 (by decide) ?_
      exact rrZ C0 hP hS (by decide) dd_RE_isWord_77 hf
    · have hf := (if_neg h_9).symm.trans hf
      refine lv_aload_n hx hb dd_RE_isWord_36 rfl (lv_at hl 0 rfl) ?_
      refine gf_RE_142 C0 hP ho_v0 dd_RE_isWord_37 ?_
      refine lv_iload_n hx hb dd_RE_isWord_40 rfl (lv_at hl 2 rfl) ?_
      refine lv_iadd hx hb dd_RE_isWord_41 ?_
      refine lv_aload_n hx hb dd_RE_isWord_42 rfl (lv_at hl 0 rfl) ?_
      refine gf_RE_26 C0 hP ho_v0 dd_RE_isWord_43 ?_
      refine lv_icmp_ge (tgt := 76) hx hb dd_RE_isWord_46 (by decide) (fun h_10 => ?_) (fun h_10 => ?_)
      · have hf := (if_pos h_10).symm.trans hf
        refine lv_iconst (v := 1) hx hb dd_RE_isWord_76 (by decide) ?_
        exact rrZ C0 hP hS (by decide) dd_RE_isWord_77 hf
      · have hf := (if_neg h_10).symm.trans hf
        refine lv_aload_n hx hb dd_RE_isWord_49 rfl (lv_at hl 0 rfl) ?_
        refine gf_RE_9 C0 hP ho_v0 dd_RE_isWord_50 ?_
        refine lv_aload_n hx hb dd_RE_isWord_53 rfl (lv_at hl 0 rfl) ?_
        refine gf_RE_142 C0 hP ho_v0 dd_RE_isWord_54 ?_
        refine lv_iload_n hx hb dd_RE_isWord_57 rfl (lv_at hl 2 rfl) ?_
        refine lv_iadd hx hb dd_RE_isWord_58 ?_
        obtain ⟨h_11, hf⟩ := of_ifb hf
        refine raI C0 hP (tp_3_0 ho_v0) h_11 dd_RE_isWord_59 ?_
        refine lv_aload_n hx hb dd_RE_isWord_60 rfl (lv_at hl 1 rfl) ?_
        refine lv_iload_n hx hb dd_RE_isWord_61 rfl (lv_at hl 2 rfl) ?_
        obtain ⟨r_12, x_13, c_14, hf⟩ := of_bnd hf
        refine cl_RE_162 C0 hap ho_v1 c_14 hP hS ⟨Nat.le_of_ble_eq_true rfl, Nat.le_of_ble_eq_true rfl⟩ hl.1 (Nat.le_of_ble_eq_true rfl) dd_RE_isWord_62 ⟨Nat.le_refl _, Nat.le_refl _⟩ (fun H locs hP hS => ?_)
        refine lv_icmp_eq (tgt := 70) hx hb dd_RE_isWord_65 (by decide) (fun h_15 => ?_) (fun h_15 => ?_)
        · have hf := (if_pos h_15).symm.trans hf
          refine lv_iinc (v := v2 + 1) (lv' := [(2, .int (v2 + 1)), (0, .ref (ad v0)), (1, .ref (E.2.2.1 v1))]) hx hb dd_RE_isWord_70 hl (k := 2) rfl rfl (by decide) rfl (fun ls hl => ?_)
          refine lv_goto (tgt := 28) hx hb dd_RE_isWord_73 (by decide) ?_
          exact ih x_13 v0 v1 (v2 + 1) ho_v0 ho_v1 hf _ _ _ hP hS (lv_sub hl [1, 2, 0] rfl)
        · have hf := (if_neg h_15).symm.trans hf
          refine lv_iconst (v := 0) hx hb dd_RE_isWord_68 (by decide) ?_
          exact rrZ C0 hP hS (by decide) dd_RE_isWord_69 hf
set_option maxHeartbeats 4000000 in
set_option maxRecDepth 100000 in
theorem ww_RE_isWord {p : Program} {l : Launch} {e : Env} {s : State} {m : MethodId} {args : Array Value} {below : List Frame} {meth : Method} {c : Code} {E : Ev} {A : Nat → Prop} {ad : Nat → Nat} {r : Int32} {x' : St} (C0 : Cx E A RRE bb_RE_isWord 3 (some .boolean) p s m args meth c) (hap : Ap ad ixC A)  {x : St} {v0 : Nat} {v1 : Nat} (ho_v0 : isO ixC v0 3) (ho_v1 : v1 < 7) (hf : ff_RE_isWord x v0 v1 = some (r, x')) {H : Heap} {locs : List Loc} {ls : Array Slot} (hP : Wd E ad ixC x H) (hS : va_S A s.heap H locs) (hl : lv_has ls 3 [(0, .ref (ad v0)), (1, .ref (E.2.2.1 v1))]) : W p l e rm_RE_isWord s m args below meth c H locs 0 0 (MQ below (QX E ad ixC A (some (.int r)) x') args s 0 0 A) (F0 m 0 ls []) := by
  obtain ⟨hx, hb, hml, hr, hown, hts, hlk, hK⟩ := id C0
  have hf : (if (gi x v0 5) = 1 then bnd (ff_ST_length x v1) (fun r_2 x_3 => (if ((gi x v0 2) - (gi x v0 6)) = r_2 then ff_RE_isWord_28 FU x_3 v0 v1 0 else some (0, x_3))) else some (0, x)) = some (r, x') := hf
  refine lv_aload_n hx hb dd_RE_isWord_0 rfl (lv_at hl 0 rfl) ?_
  refine gf_RE_38 C0 hP ho_v0 dd_RE_isWord_1 ?_
  refine lv_iconst (v := 1) hx hb dd_RE_isWord_4 (by decide) ?_
  refine lv_icmp_ne (tgt := 24) hx hb dd_RE_isWord_5 (by decide) (fun h_1 => ?_) (fun h_1 => ?_)
  · have hf := (if_neg h_1).symm.trans hf
    refine lv_iconst (v := 0) hx hb dd_RE_isWord_24 (by decide) ?_
    exact rrZ C0 hP hS (by decide) dd_RE_isWord_25 hf
  · have hf := (if_pos h_1).symm.trans hf
    refine lv_aload_n hx hb dd_RE_isWord_8 rfl (lv_at hl 0 rfl) ?_
    refine gf_RE_32 C0 hP ho_v0 dd_RE_isWord_9 ?_
    refine lv_aload_n hx hb dd_RE_isWord_12 rfl (lv_at hl 0 rfl) ?_
    refine gf_RE_142 C0 hP ho_v0 dd_RE_isWord_13 ?_
    refine lv_isub hx hb dd_RE_isWord_16 ?_
    refine lv_aload_n hx hb dd_RE_isWord_17 rfl (lv_at hl 1 rfl) ?_
    obtain ⟨r_2, x_3, c_4, hf⟩ := of_bnd hf
    refine cl_RE_158 C0 hap ho_v1 c_4 hP hS ⟨Nat.le_of_ble_eq_true rfl, Nat.le_of_ble_eq_true rfl⟩ hl.1 (Nat.le_of_ble_eq_true rfl) dd_RE_isWord_18 ⟨Nat.le_refl _, Nat.le_refl _⟩ (fun H locs hP hS => ?_)
    refine lv_icmp_eq (tgt := 26) hx hb dd_RE_isWord_21 (by decide) (fun h_5 => ?_) (fun h_5 => ?_)
    · have hf := (if_pos h_5).symm.trans hf
      refine lv_iconst (v := 0) hx hb dd_RE_isWord_26 (by decide) ?_
      refine lv_istore_n (lv' := [(2, .int 0), (0, .ref (ad v0)), (1, .ref (E.2.2.1 v1))]) hx hb dd_RE_isWord_27 rfl hl (by decide) rfl (fun ls hl => ?_)
      exact ww_RE_isWord_28 C0 hap  FU x_3 v0 v1 0 ho_v0 ho_v1 hf _ _ _ hP hS (lv_sub hl [1, 2, 0] rfl)
    · have hf := (if_neg h_5).symm.trans hf
      refine lv_iconst (v := 0) hx hb dd_RE_isWord_24 (by decide) ?_
      exact rrZ C0 hP hS (by decide) dd_RE_isWord_25 hf
theorem cc_RE_isWord {l : Launch} {E : Ev} {A : Nat → Prop} {ad : Nat → Nat} (hap : Ap ad ixC A) {x x' : St} {v0 : Nat} {v1 : Nat} {r : Int32} (ho_v0 : isO ixC v0 3) (ho_v1 : v1 < 7) (hf : ff_RE_isWord x v0 v1 = some (r, x')) : Met l yy_RE_isWord (Cond.code yy_RE_isWord bb_RE_isWord 3 (some .boolean) :: gtb) rm_RE_isWord (va_Pc [.ref (ad v0), .ref (E.2.2.1 v1)] (PB E A ad ixC x)) (QX E ad ixC A (some (.int r)) x') 0 0 A := by
  exact enter (by decide) (Nat.le_of_ble_eq_true rfl) (fun p e s m below meth c ls C0 hP hS hl => ww_RE_isWord C0 hap ho_v0 ho_v1 hf hP hS hl)
abbrev rm_RE_blame : Room := { frames := 0, cells := 0, slots := 0, locals := 0 }
theorem dd_RE_blame_0 : decode bb_RE_blame 0 = .ok (.aload_n 0, 1) := by decide +kernel
theorem dd_RE_blame_1 : decode bb_RE_blame 1 = .ok (.getfield 15, 3) := by decide +kernel
theorem dd_RE_blame_4 : decode bb_RE_blame 4 = .ok (.iconst (-1), 1) := by decide +kernel
theorem dd_RE_blame_5 : decode bb_RE_blame 5 = .ok (.if_icmp .ne 11, 3) := by decide +kernel
theorem dd_RE_blame_8 : decode bb_RE_blame 8 = .ok (.aload_n 0, 1) := by decide +kernel
theorem dd_RE_blame_9 : decode bb_RE_blame 9 = .ok (.aload_n 0, 1) := by decide +kernel
theorem dd_RE_blame_10 : decode bb_RE_blame 10 = .ok (.getfield 142, 3) := by decide +kernel
theorem dd_RE_blame_13 : decode bb_RE_blame 13 = .ok (.putfield 15, 3) := by decide +kernel
theorem dd_RE_blame_16 : decode bb_RE_blame 16 = .ok (.return_, 1) := by decide +kernel
def ff_RE_blame  (x : St) (v0 : Nat) : Option (Unit × St) := (if (gi x v0 3) = (-1) then st (si x v0 3 (gi x v0 6)) (fun x_2 => some ((), x_2)) else some ((), x))
set_option maxHeartbeats 4000000 in
set_option maxRecDepth 100000 in
theorem ww_RE_blame {p : Program} {l : Launch} {e : Env} {s : State} {m : MethodId} {args : Array Value} {below : List Frame} {meth : Method} {c : Code} {E : Ev} {A : Nat → Prop} {ad : Nat → Nat} {r : Unit} {x' : St} (C0 : Cx E A RRE bb_RE_blame 1 (none) p s m args meth c) (hap : Ap ad ixC A)  {x : St} {v0 : Nat} (ho_v0 : isO ixC v0 3) (hf : ff_RE_blame x v0 = some (r, x')) {H : Heap} {locs : List Loc} {ls : Array Slot} (hP : Wd E ad ixC x H) (hS : va_S A s.heap H locs) (hl : lv_has ls 1 [(0, .ref (ad v0))]) : W p l e rm_RE_blame s m args below meth c H locs 0 0 (MQ below (QX E ad ixC A (none) x') args s 0 0 A) (F0 m 0 ls []) := by
  obtain ⟨hx, hb, hml, hr, hown, hts, hlk, hK⟩ := id C0
  have hf : (if (gi x v0 3) = (-1) then st (si x v0 3 (gi x v0 6)) (fun x_2 => some ((), x_2)) else some ((), x)) = some (r, x') := hf
  refine lv_aload_n hx hb dd_RE_blame_0 rfl (lv_at hl 0 rfl) ?_
  refine gf_RE_15 C0 hP ho_v0 dd_RE_blame_1 ?_
  refine lv_iconst (v := -1) hx hb dd_RE_blame_4 (by decide) ?_
  refine lv_icmp_ne (tgt := 16) hx hb dd_RE_blame_5 (by decide) (fun h_1 => ?_) (fun h_1 => ?_)
  · have hf := (if_neg h_1).symm.trans hf
    exact rrV C0 hP hS dd_RE_blame_16 hf
  · have hf := (if_pos h_1).symm.trans hf
    refine lv_aload_n hx hb dd_RE_blame_8 rfl (lv_at hl 0 rfl) ?_
    refine lv_aload_n hx hb dd_RE_blame_9 rfl (lv_at hl 0 rfl) ?_
    refine gf_RE_142 C0 hP ho_v0 dd_RE_blame_10 ?_
    obtain ⟨x_2, hx_2, hf⟩ := of_st hf
    refine pf_RE_15 C0 hap hP hS ho_v0 hx_2 dd_RE_blame_13 (fun H locs hP hS => ?_)
    exact rrV C0 hP hS dd_RE_blame_16 hf
theorem cc_RE_blame {l : Launch} {E : Ev} {A : Nat → Prop} {ad : Nat → Nat} (hap : Ap ad ixC A) {x x' : St} {v0 : Nat} {r : Unit} (ho_v0 : isO ixC v0 3) (hf : ff_RE_blame x v0 = some (r, x')) : Met l yy_RE_blame (Cond.code yy_RE_blame bb_RE_blame 1 (none) :: gtb) rm_RE_blame (va_Pc [.ref (ad v0)] (PB E A ad ixC x)) (QX E ad ixC A (none) x') 0 0 A := by
  exact enter (by decide) (Nat.le_of_ble_eq_true rfl) (fun p e s m below meth c ls C0 hP hS hl => ww_RE_blame C0 hap ho_v0 hf hP hS hl)
theorem cl_RE_78 {p : Program} {l : Launch} {e : Env} {R : Room} {s : State} {m : MethodId} {args : Array Value} {below : List Frame} {meth : Method} {c : Code} {H : Heap} {locs : List Loc} {cells slots : Nat} {Q : State → Prop} {cc : ByteArray} {pc : Nat} {ls : Array Slot} {rest : List Value} {E : Ev} {A : Nat → Prop} {ad : Nat → Nat} {nL : Nat} {rt : Option FieldType} (C0 : Cx E A RRE cc nL rt p s m args meth c) (hap : Ap ad ixC A) {x x' : St} {v0 : Nat} {r : Unit} (ho_v0 : isO ixC v0 3) (hc : ff_RE_blame x v0 = some (r, x')) (hP : Wd E ad ixC x H) (hS : va_S A s.heap H locs) (hR : rm_RE_blame.frames + 1 ≤ R.frames ∧ 8 + (1 + 11) + rm_RE_blame.locals ≤ R.locals) (hls : ls.size = nL) (hroom : (rest.map fun v => v.category).sum ≤ 8) (hdg : decode cc pc = .ok (.invokevirtual 78, 3)) (hf : cells ≤ R.cells ∧ slots ≤ R.slots) (kk : ∀ H1 locs1, Wd E ad ixC x' H1 → va_S A s.heap H1 locs1 → W p l e R s m args below meth c H1 locs1 cells slots Q (F0 m (pc + 3) ls (rest))) : W p l e R s m args below meth c H locs cells slots Q (F0 m pc ls (.ref (ad v0) :: rest)) :=
  rcV (n := 0) C0 (cc_RE_blame hap ho_v0 hc) hP hS ho_v0 vcl_3 (by decide) gw_code_RE_blame gw_m_RE_78 gw_inst_RE_blame gw_sel_RE_blame gw_ini_RE rfl rfl (by decide +kernel) rfl hR hls rfl hroom hdg hf (fun H1 locs1 a _ _ b => kk H1 locs1 a b)
theorem cl_RE_134 {p : Program} {l : Launch} {e : Env} {R : Room} {s : State} {m : MethodId} {args : Array Value} {below : List Frame} {meth : Method} {c : Code} {H : Heap} {locs : List Loc} {cells slots : Nat} {Q : State → Prop} {cc : ByteArray} {pc : Nat} {ls : Array Slot} {rest : List Value} {E : Ev} {A : Nat → Prop} {ad : Nat → Nat} {nL : Nat} {rt : Option FieldType} (C0 : Cx E A RRE cc nL rt p s m args meth c) (hap : Ap ad ixC A) {x x' : St} {v0 : Nat} {r : Int32} (ho_v0 : isO ixC v0 1) (hc : ff_LE_isFull x v0 = some (r, x')) (hP : Wd E ad ixC x H) (hS : va_S A s.heap H locs) (hR : rm_LE_isFull.frames + 1 ≤ R.frames ∧ 8 + (1 + 11) + rm_LE_isFull.locals ≤ R.locals) (hls : ls.size = nL) (hroom : (rest.map fun v => v.category).sum ≤ 8) (hdg : decode cc pc = .ok (.invokevirtual 134, 3)) (hf : cells ≤ R.cells ∧ slots ≤ R.slots) (kk : ∀ H1 locs1, Wd E ad ixC x' H1 → va_S A s.heap H1 locs1 → W p l e R s m args below meth c H1 locs1 cells slots Q (F0 m (pc + 3) ls (.int r :: rest))) : W p l e R s m args below meth c H locs cells slots Q (F0 m pc ls (.ref (ad v0) :: rest)) :=
  rcV (n := 0) C0 (cc_LE_isFull hap ho_v0 hc) hP hS ho_v0 vcl_1 (by decide) gw_code_LE_isFull gw_m_RE_134 gw_inst_LE_isFull gw_sel_LE_isFull gw_ini_LE rfl rfl (by decide +kernel) rfl hR hls rfl hroom hdg hf (fun H1 locs1 a _ _ b => kk H1 locs1 a b)
abbrev rm_RE_wantRoom : Room := { frames := 1, cells := 0, slots := 0, locals := 20 }
theorem dd_RE_wantRoom_0 : decode bb_RE_wantRoom 0 = .ok (.aload_n 1, 1) := by decide +kernel
theorem dd_RE_wantRoom_1 : decode bb_RE_wantRoom 1 = .ok (.invokevirtual 134, 3) := by decide +kernel
theorem dd_RE_wantRoom_4 : decode bb_RE_wantRoom 4 = .ok (.ifCond .eq 7, 3) := by decide +kernel
theorem dd_RE_wantRoom_7 : decode bb_RE_wantRoom 7 = .ok (.aload_n 0, 1) := by decide +kernel
theorem dd_RE_wantRoom_8 : decode bb_RE_wantRoom 8 = .ok (.invokevirtual 78, 3) := by decide +kernel
theorem dd_RE_wantRoom_11 : decode bb_RE_wantRoom 11 = .ok (.return_, 1) := by decide +kernel
def ff_RE_wantRoom  (x : St) (v0 : Nat) (v1 : Nat) : Option (Unit × St) := bnd (ff_LE_isFull x v1) (fun r_1 x_2 => (if r_1 = 0 then some ((), x_2) else bnd (ff_RE_blame x_2 v0) (fun _ x_6 => some ((), x_6))))
set_option maxHeartbeats 4000000 in
set_option maxRecDepth 100000 in
theorem ww_RE_wantRoom {p : Program} {l : Launch} {e : Env} {s : State} {m : MethodId} {args : Array Value} {below : List Frame} {meth : Method} {c : Code} {E : Ev} {A : Nat → Prop} {ad : Nat → Nat} {r : Unit} {x' : St} (C0 : Cx E A RRE bb_RE_wantRoom 2 (none) p s m args meth c) (hap : Ap ad ixC A)  {x : St} {v0 : Nat} {v1 : Nat} (ho_v0 : isO ixC v0 3) (ho_v1 : isO ixC v1 1) (hf : ff_RE_wantRoom x v0 v1 = some (r, x')) {H : Heap} {locs : List Loc} {ls : Array Slot} (hP : Wd E ad ixC x H) (hS : va_S A s.heap H locs) (hl : lv_has ls 2 [(0, .ref (ad v0)), (1, .ref (ad v1))]) : W p l e rm_RE_wantRoom s m args below meth c H locs 0 0 (MQ below (QX E ad ixC A (none) x') args s 0 0 A) (F0 m 0 ls []) := by
  obtain ⟨hx, hb, hml, hr, hown, hts, hlk, hK⟩ := id C0
  have hf : bnd (ff_LE_isFull x v1) (fun r_1 x_2 => (if r_1 = 0 then some ((), x_2) else bnd (ff_RE_blame x_2 v0) (fun _ x_6 => some ((), x_6)))) = some (r, x') := hf
  refine lv_aload_n hx hb dd_RE_wantRoom_0 rfl (lv_at hl 1 rfl) ?_
  obtain ⟨r_1, x_2, c_3, hf⟩ := of_bnd hf
  refine cl_RE_134 C0 hap ho_v1 c_3 hP hS ⟨Nat.le_of_ble_eq_true rfl, Nat.le_of_ble_eq_true rfl⟩ hl.1 (Nat.le_of_ble_eq_true rfl) dd_RE_wantRoom_1 ⟨Nat.le_refl _, Nat.le_refl _⟩ (fun H locs hP hS => ?_)
  refine lv_if_eq (tgt := 11) hx hb dd_RE_wantRoom_4 (by decide) (fun h_4 => ?_) (fun h_4 => ?_)
  · have hf := (if_pos h_4).symm.trans hf
    exact rrV C0 hP hS dd_RE_wantRoom_11 hf
  · have hf := (if_neg h_4).symm.trans hf
    refine lv_aload_n hx hb dd_RE_wantRoom_7 rfl (lv_at hl 0 rfl) ?_
    obtain ⟨_, x_6, c_7, hf⟩ := of_bnd hf
    refine cl_RE_78 C0 hap ho_v0 c_7 hP hS ⟨Nat.le_of_ble_eq_true rfl, Nat.le_of_ble_eq_true rfl⟩ hl.1 (Nat.le_of_ble_eq_true rfl) dd_RE_wantRoom_8 ⟨Nat.le_refl _, Nat.le_refl _⟩ (fun H locs hP hS => ?_)
    exact rrV C0 hP hS dd_RE_wantRoom_11 hf
theorem cc_RE_wantRoom {l : Launch} {E : Ev} {A : Nat → Prop} {ad : Nat → Nat} (hap : Ap ad ixC A) {x x' : St} {v0 : Nat} {v1 : Nat} {r : Unit} (ho_v0 : isO ixC v0 3) (ho_v1 : isO ixC v1 1) (hf : ff_RE_wantRoom x v0 v1 = some (r, x')) : Met l yy_RE_wantRoom (Cond.code yy_RE_wantRoom bb_RE_wantRoom 2 (none) :: gtb) rm_RE_wantRoom (va_Pc [.ref (ad v0), .ref (ad v1)] (PB E A ad ixC x)) (QX E ad ixC A (none) x') 0 0 A := by
  exact enter (by decide) (Nat.le_of_ble_eq_true rfl) (fun p e s m below meth c ls C0 hP hS hl => ww_RE_wantRoom C0 hap ho_v0 ho_v1 hf hP hS hl)
theorem cl_RE_138 {p : Program} {l : Launch} {e : Env} {R : Room} {s : State} {m : MethodId} {args : Array Value} {below : List Frame} {meth : Method} {c : Code} {H : Heap} {locs : List Loc} {cells slots : Nat} {Q : State → Prop} {cc : ByteArray} {pc : Nat} {ls : Array Slot} {rest : List Value} {E : Ev} {A : Nat → Prop} {ad : Nat → Nat} {nL : Nat} {rt : Option FieldType} (C0 : Cx E A RRE cc nL rt p s m args meth c) (hap : Ap ad ixC A) {x x' : St} {v0 : Int32} {v1 : Int32} {v2 : Int32} {r : Int32}  (hc : ff_GG_isWithin x v0 v1 v2 = some (r, x')) (hP : Wd E ad ixC x H) (hS : va_S A s.heap H locs) (hR : rm_GG_isWithin.frames + 1 ≤ R.frames ∧ 8 + (3 + 11) + rm_GG_isWithin.locals ≤ R.locals) (hls : ls.size = nL) (hroom : (rest.map fun v => v.category).sum ≤ 8) (hdg : decode cc pc = .ok (.invokestatic 138, 3)) (hf : cells ≤ R.cells ∧ slots ≤ R.slots) (kk : ∀ H1 locs1, Wd E ad ixC x' H1 → va_S A s.heap H1 locs1 → W p l e R s m args below meth c H1 locs1 cells slots Q (F0 m (pc + 3) ls (.int r :: rest))) : W p l e R s m args below meth c H locs cells slots Q (F0 m pc ls (.int v2 :: .int v1 :: .int v0 :: rest)) :=
  rcSN (n := 3) C0 (cc_GG_isWithin hap  hc) hP hS gw_code_GG_isWithin gw_m_RE_138 gw_static_GG_isWithin gw_ini_GG rfl rfl (by decide +kernel) rfl hR hls rfl hroom hdg hf (fun H1 locs1 a _ _ b => kk H1 locs1 a b)
abbrev rm_RE_wantNumber : Room := { frames := 1, cells := 0, slots := 0, locals := 22 }
theorem dd_RE_wantNumber_0 : decode bb_RE_wantNumber 0 = .ok (.aload_n 0, 1) := by decide +kernel
theorem dd_RE_wantNumber_1 : decode bb_RE_wantNumber 1 = .ok (.getfield 38, 3) := by decide +kernel
theorem dd_RE_wantNumber_4 : decode bb_RE_wantNumber 4 = .ok (.iconst 2, 1) := by decide +kernel
theorem dd_RE_wantNumber_5 : decode bb_RE_wantNumber 5 = .ok (.if_icmp .ne 15, 3) := by decide +kernel
theorem dd_RE_wantNumber_8 : decode bb_RE_wantNumber 8 = .ok (.aload_n 0, 1) := by decide +kernel
theorem dd_RE_wantNumber_9 : decode bb_RE_wantNumber 9 = .ok (.getfield 120, 3) := by decide +kernel
theorem dd_RE_wantNumber_12 : decode bb_RE_wantNumber 12 = .ok (.iload_n 1, 1) := by decide +kernel
theorem dd_RE_wantNumber_13 : decode bb_RE_wantNumber 13 = .ok (.iload_n 2, 1) := by decide +kernel
theorem dd_RE_wantNumber_14 : decode bb_RE_wantNumber 14 = .ok (.invokestatic 138, 3) := by decide +kernel
theorem dd_RE_wantNumber_17 : decode bb_RE_wantNumber 17 = .ok (.ifCond .ne 7, 3) := by decide +kernel
theorem dd_RE_wantNumber_20 : decode bb_RE_wantNumber 20 = .ok (.aload_n 0, 1) := by decide +kernel
theorem dd_RE_wantNumber_21 : decode bb_RE_wantNumber 21 = .ok (.invokevirtual 78, 3) := by decide +kernel
theorem dd_RE_wantNumber_24 : decode bb_RE_wantNumber 24 = .ok (.return_, 1) := by decide +kernel
def ff_RE_wantNumber  (x : St) (v0 : Nat) (v1 : Int32) (v2 : Int32) : Option (Unit × St) := (if (gi x v0 5) = 2 then bnd (ff_GG_isWithin x (gi x v0 7) v1 v2) (fun r_5 x_6 => (if r_5 = 0 then bnd (ff_RE_blame x_6 v0) (fun _ x_10 => some ((), x_10)) else some ((), x_6))) else bnd (ff_RE_blame x v0) (fun _ x_3 => some ((), x_3)))
set_option maxHeartbeats 4000000 in
set_option maxRecDepth 100000 in
theorem ww_RE_wantNumber {p : Program} {l : Launch} {e : Env} {s : State} {m : MethodId} {args : Array Value} {below : List Frame} {meth : Method} {c : Code} {E : Ev} {A : Nat → Prop} {ad : Nat → Nat} {r : Unit} {x' : St} (C0 : Cx E A RRE bb_RE_wantNumber 3 (none) p s m args meth c) (hap : Ap ad ixC A)  {x : St} {v0 : Nat} {v1 : Int32} {v2 : Int32} (ho_v0 : isO ixC v0 3) (hf : ff_RE_wantNumber x v0 v1 v2 = some (r, x')) {H : Heap} {locs : List Loc} {ls : Array Slot} (hP : Wd E ad ixC x H) (hS : va_S A s.heap H locs) (hl : lv_has ls 3 [(0, .ref (ad v0)), (1, .int v1), (2, .int v2)]) : W p l e rm_RE_wantNumber s m args below meth c H locs 0 0 (MQ below (QX E ad ixC A (none) x') args s 0 0 A) (F0 m 0 ls []) := by
  obtain ⟨hx, hb, hml, hr, hown, hts, hlk, hK⟩ := id C0
  have hf : (if (gi x v0 5) = 2 then bnd (ff_GG_isWithin x (gi x v0 7) v1 v2) (fun r_5 x_6 => (if r_5 = 0 then bnd (ff_RE_blame x_6 v0) (fun _ x_10 => some ((), x_10)) else some ((), x_6))) else bnd (ff_RE_blame x v0) (fun _ x_3 => some ((), x_3))) = some (r, x') := hf
  refine lv_aload_n hx hb dd_RE_wantNumber_0 rfl (lv_at hl 0 rfl) ?_
  refine gf_RE_38 C0 hP ho_v0 dd_RE_wantNumber_1 ?_
  refine lv_iconst (v := 2) hx hb dd_RE_wantNumber_4 (by decide) ?_
  refine lv_icmp_ne (tgt := 20) hx hb dd_RE_wantNumber_5 (by decide) (fun h_1 => ?_) (fun h_1 => ?_)
  · have hf := (if_neg h_1).symm.trans hf
    refine lv_aload_n hx hb dd_RE_wantNumber_20 rfl (lv_at hl 0 rfl) ?_
    obtain ⟨_, x_3, c_4, hf⟩ := of_bnd hf
    refine cl_RE_78 C0 hap ho_v0 c_4 hP hS ⟨Nat.le_of_ble_eq_true rfl, Nat.le_of_ble_eq_true rfl⟩ hl.1 (Nat.le_of_ble_eq_true rfl) dd_RE_wantNumber_21 ⟨Nat.le_refl _, Nat.le_refl _⟩ (fun H locs hP hS => ?_)
    exact rrV C0 hP hS dd_RE_wantNumber_24 hf
  · have hf := (if_pos h_1).symm.trans hf
    refine lv_aload_n hx hb dd_RE_wantNumber_8 rfl (lv_at hl 0 rfl) ?_
    refine gf_RE_120 C0 hP ho_v0 dd_RE_wantNumber_9 ?_
    refine lv_iload_n hx hb dd_RE_wantNumber_12 rfl (lv_at hl 1 rfl) ?_
    refine lv_iload_n hx hb dd_RE_wantNumber_13 rfl (lv_at hl 2 rfl) ?_
    obtain ⟨r_5, x_6, c_7, hf⟩ := of_bnd hf
    refine cl_RE_138 C0 hap  c_7 hP hS ⟨Nat.le_of_ble_eq_true rfl, Nat.le_of_ble_eq_true rfl⟩ hl.1 (Nat.le_of_ble_eq_true rfl) dd_RE_wantNumber_14 ⟨Nat.le_refl _, Nat.le_refl _⟩ (fun H locs hP hS => ?_)
    refine lv_if_ne (tgt := 24) hx hb dd_RE_wantNumber_17 (by decide) (fun h_8 => ?_) (fun h_8 => ?_)
    · have hf := (if_neg h_8).symm.trans hf
      exact rrV C0 hP hS dd_RE_wantNumber_24 hf
    · have hf := (if_pos h_8).symm.trans hf
      refine lv_aload_n hx hb dd_RE_wantNumber_20 rfl (lv_at hl 0 rfl) ?_
      obtain ⟨_, x_10, c_11, hf⟩ := of_bnd hf
      refine cl_RE_78 C0 hap ho_v0 c_11 hP hS ⟨Nat.le_of_ble_eq_true rfl, Nat.le_of_ble_eq_true rfl⟩ hl.1 (Nat.le_of_ble_eq_true rfl) dd_RE_wantNumber_21 ⟨Nat.le_refl _, Nat.le_refl _⟩ (fun H locs hP hS => ?_)
      exact rrV C0 hP hS dd_RE_wantNumber_24 hf
theorem cc_RE_wantNumber {l : Launch} {E : Ev} {A : Nat → Prop} {ad : Nat → Nat} (hap : Ap ad ixC A) {x x' : St} {v0 : Nat} {v1 : Int32} {v2 : Int32} {r : Unit} (ho_v0 : isO ixC v0 3) (hf : ff_RE_wantNumber x v0 v1 v2 = some (r, x')) : Met l yy_RE_wantNumber (Cond.code yy_RE_wantNumber bb_RE_wantNumber 3 (none) :: gtb) rm_RE_wantNumber (va_Pc [.ref (ad v0), .int v1, .int v2] (PB E A ad ixC x)) (QX E ad ixC A (none) x') 0 0 A := by
  exact enter (by decide) (Nat.le_of_ble_eq_true rfl) (fun p e s m below meth c ls C0 hP hS hl => ww_RE_wantNumber C0 hap ho_v0 hf hP hS hl)
theorem cl_RE_35 {p : Program} {l : Launch} {e : Env} {R : Room} {s : State} {m : MethodId} {args : Array Value} {below : List Frame} {meth : Method} {c : Code} {H : Heap} {locs : List Loc} {cells slots : Nat} {Q : State → Prop} {cc : ByteArray} {pc : Nat} {ls : Array Slot} {rest : List Value} {E : Ev} {A : Nat → Prop} {ad : Nat → Nat} {nL : Nat} {rt : Option FieldType} (C0 : Cx E A RRE cc nL rt p s m args meth c) (hap : Ap ad ixC A) {x x' : St} {v0 : Nat} {r : Unit} (ho_v0 : isO ixC v0 3) (hc : ff_RE_nextToken x v0 = some (r, x')) (hP : Wd E ad ixC x H) (hS : va_S A s.heap H locs) (hR : rm_RE_nextToken.frames + 1 ≤ R.frames ∧ 8 + (1 + 11) + rm_RE_nextToken.locals ≤ R.locals) (hls : ls.size = nL) (hroom : (rest.map fun v => v.category).sum ≤ 8) (hdg : decode cc pc = .ok (.invokevirtual 35, 3)) (hf : cells ≤ R.cells ∧ slots ≤ R.slots) (kk : ∀ H1 locs1, Wd E ad ixC x' H1 → va_S A s.heap H1 locs1 → W p l e R s m args below meth c H1 locs1 cells slots Q (F0 m (pc + 3) ls (rest))) : W p l e R s m args below meth c H locs cells slots Q (F0 m pc ls (.ref (ad v0) :: rest)) :=
  rcV (n := 0) C0 (cc_RE_nextToken hap ho_v0 hc) hP hS ho_v0 vcl_3 (by decide) gw_code_RE_nextToken gw_m_RE_35 gw_inst_RE_nextToken gw_sel_RE_nextToken gw_ini_RE rfl rfl (by decide +kernel) rfl hR hls rfl hroom hdg hf (fun H1 locs1 a _ _ b => kk H1 locs1 a b)
theorem cl_RE_123 {p : Program} {l : Launch} {e : Env} {R : Room} {s : State} {m : MethodId} {args : Array Value} {below : List Frame} {meth : Method} {c : Code} {H : Heap} {locs : List Loc} {cells slots : Nat} {Q : State → Prop} {cc : ByteArray} {pc : Nat} {ls : Array Slot} {rest : List Value} {E : Ev} {A : Nat → Prop} {ad : Nat → Nat} {nL : Nat} {rt : Option FieldType} (C0 : Cx E A RRE cc nL rt p s m args meth c) (hap : Ap ad ixC A) {x x' : St} {v0 : Nat} {v1 : Int32} {v2 : Int32} {r : Unit} (ho_v0 : isO ixC v0 3) (hc : ff_RE_wantNumber x v0 v1 v2 = some (r, x')) (hP : Wd E ad ixC x H) (hS : va_S A s.heap H locs) (hR : rm_RE_wantNumber.frames + 1 ≤ R.frames ∧ 8 + (3 + 11) + rm_RE_wantNumber.locals ≤ R.locals) (hls : ls.size = nL) (hroom : (rest.map fun v => v.category).sum ≤ 8) (hdg : decode cc pc = .ok (.invokevirtual 123, 3)) (hf : cells ≤ R.cells ∧ slots ≤ R.slots) (kk : ∀ H1 locs1, Wd E ad ixC x' H1 → va_S A s.heap H1 locs1 → W p l e R s m args below meth c H1 locs1 cells slots Q (F0 m (pc + 3) ls (rest))) : W p l e R s m args below meth c H locs cells slots Q (F0 m pc ls (.int v2 :: .int v1 :: .ref (ad v0) :: rest)) :=
  rcV (n := 2) C0 (cc_RE_wantNumber hap ho_v0 hc) hP hS ho_v0 vcl_3 (by decide) gw_code_RE_wantNumber gw_m_RE_123 gw_inst_RE_wantNumber gw_sel_RE_wantNumber gw_ini_RE rfl rfl (by decide +kernel) rfl hR hls rfl hroom hdg hf (fun H1 locs1 a _ _ b => kk H1 locs1 a b)
abbrev rm_RE_readNumber : Room := { frames := 3, cells := 0, slots := 0, locals := 60 }
theorem dd_RE_readNumber_0 : decode bb_RE_readNumber 0 = .ok (.aload_n 0, 1) := by decide +kernel
theorem dd_RE_readNumber_1 : decode bb_RE_readNumber 1 = .ok (.getfield 15, 3) := by decide +kernel
theorem dd_RE_readNumber_4 : decode bb_RE_readNumber 4 = .ok (.iconst (-1), 1) := by decide +kernel
theorem dd_RE_readNumber_5 : decode bb_RE_readNumber 5 = .ok (.if_icmp .ne 13, 3) := by decide +kernel
theorem dd_RE_readNumber_8 : decode bb_RE_readNumber 8 = .ok (.aload_n 0, 1) := by decide +kernel
theorem dd_RE_readNumber_9 : decode bb_RE_readNumber 9 = .ok (.invokevirtual 35, 3) := by decide +kernel
theorem dd_RE_readNumber_12 : decode bb_RE_readNumber 12 = .ok (.aload_n 0, 1) := by decide +kernel
theorem dd_RE_readNumber_13 : decode bb_RE_readNumber 13 = .ok (.iload_n 1, 1) := by decide +kernel
theorem dd_RE_readNumber_14 : decode bb_RE_readNumber 14 = .ok (.iload_n 2, 1) := by decide +kernel
theorem dd_RE_readNumber_15 : decode bb_RE_readNumber 15 = .ok (.invokevirtual 123, 3) := by decide +kernel
theorem dd_RE_readNumber_18 : decode bb_RE_readNumber 18 = .ok (.aload_n 0, 1) := by decide +kernel
theorem dd_RE_readNumber_19 : decode bb_RE_readNumber 19 = .ok (.getfield 120, 3) := by decide +kernel
theorem dd_RE_readNumber_22 : decode bb_RE_readNumber 22 = .ok (.ireturn, 1) := by decide +kernel
def ff_RE_readNumber  (x : St) (v0 : Nat) (v1 : Int32) (v2 : Int32) : Option (Int32 × St) := (if (gi x v0 3) = (-1) then bnd (ff_RE_nextToken x v0) (fun _ x_3 => bnd (ff_RE_wantNumber x_3 v0 v1 v2) (fun _ x_6 => some (gi x_6 v0 7, x_6))) else some (gi x v0 7, x))
set_option maxHeartbeats 4000000 in
set_option maxRecDepth 100000 in
theorem ww_RE_readNumber {p : Program} {l : Launch} {e : Env} {s : State} {m : MethodId} {args : Array Value} {below : List Frame} {meth : Method} {c : Code} {E : Ev} {A : Nat → Prop} {ad : Nat → Nat} {r : Int32} {x' : St} (C0 : Cx E A RRE bb_RE_readNumber 3 (some .int) p s m args meth c) (hap : Ap ad ixC A)  {x : St} {v0 : Nat} {v1 : Int32} {v2 : Int32} (ho_v0 : isO ixC v0 3) (hf : ff_RE_readNumber x v0 v1 v2 = some (r, x')) {H : Heap} {locs : List Loc} {ls : Array Slot} (hP : Wd E ad ixC x H) (hS : va_S A s.heap H locs) (hl : lv_has ls 3 [(0, .ref (ad v0)), (1, .int v1), (2, .int v2)]) : W p l e rm_RE_readNumber s m args below meth c H locs 0 0 (MQ below (QX E ad ixC A (some (.int r)) x') args s 0 0 A) (F0 m 0 ls []) := by
  obtain ⟨hx, hb, hml, hr, hown, hts, hlk, hK⟩ := id C0
  have hf : (if (gi x v0 3) = (-1) then bnd (ff_RE_nextToken x v0) (fun _ x_3 => bnd (ff_RE_wantNumber x_3 v0 v1 v2) (fun _ x_6 => some (gi x_6 v0 7, x_6))) else some (gi x v0 7, x)) = some (r, x') := hf
  refine lv_aload_n hx hb dd_RE_readNumber_0 rfl (lv_at hl 0 rfl) ?_
  refine gf_RE_15 C0 hP ho_v0 dd_RE_readNumber_1 ?_
  refine lv_iconst (v := -1) hx hb dd_RE_readNumber_4 (by decide) ?_
  refine lv_icmp_ne (tgt := 18) hx hb dd_RE_readNumber_5 (by decide) (fun h_1 => ?_) (fun h_1 => ?_)
  · have hf := (if_neg h_1).symm.trans hf
    refine lv_aload_n hx hb dd_RE_readNumber_18 rfl (lv_at hl 0 rfl) ?_
    refine gf_RE_120 C0 hP ho_v0 dd_RE_readNumber_19 ?_
    exact rrI C0 hP hS dd_RE_readNumber_22 hf
  · have hf := (if_pos h_1).symm.trans hf
    refine lv_aload_n hx hb dd_RE_readNumber_8 rfl (lv_at hl 0 rfl) ?_
    obtain ⟨_, x_3, c_4, hf⟩ := of_bnd hf
    refine cl_RE_35 C0 hap ho_v0 c_4 hP hS ⟨Nat.le_of_ble_eq_true rfl, Nat.le_of_ble_eq_true rfl⟩ hl.1 (Nat.le_of_ble_eq_true rfl) dd_RE_readNumber_9 ⟨Nat.le_refl _, Nat.le_refl _⟩ (fun H locs hP hS => ?_)
    refine lv_aload_n hx hb dd_RE_readNumber_12 rfl (lv_at hl 0 rfl) ?_
    refine lv_iload_n hx hb dd_RE_readNumber_13 rfl (lv_at hl 1 rfl) ?_
    refine lv_iload_n hx hb dd_RE_readNumber_14 rfl (lv_at hl 2 rfl) ?_
    obtain ⟨_, x_6, c_7, hf⟩ := of_bnd hf
    refine cl_RE_123 C0 hap ho_v0 c_7 hP hS ⟨Nat.le_of_ble_eq_true rfl, Nat.le_of_ble_eq_true rfl⟩ hl.1 (Nat.le_of_ble_eq_true rfl) dd_RE_readNumber_15 ⟨Nat.le_refl _, Nat.le_refl _⟩ (fun H locs hP hS => ?_)
    refine lv_aload_n hx hb dd_RE_readNumber_18 rfl (lv_at hl 0 rfl) ?_
    refine gf_RE_120 C0 hP ho_v0 dd_RE_readNumber_19 ?_
    exact rrI C0 hP hS dd_RE_readNumber_22 hf
theorem cc_RE_readNumber {l : Launch} {E : Ev} {A : Nat → Prop} {ad : Nat → Nat} (hap : Ap ad ixC A) {x x' : St} {v0 : Nat} {v1 : Int32} {v2 : Int32} {r : Int32} (ho_v0 : isO ixC v0 3) (hf : ff_RE_readNumber x v0 v1 v2 = some (r, x')) : Met l yy_RE_readNumber (Cond.code yy_RE_readNumber bb_RE_readNumber 3 (some .int) :: gtb) rm_RE_readNumber (va_Pc [.ref (ad v0), .int v1, .int v2] (PB E A ad ixC x)) (QX E ad ixC A (some (.int r)) x') 0 0 A := by
  exact enter (by decide) (Nat.le_of_ble_eq_true rfl) (fun p e s m below meth c ls C0 hP hS hl => ww_RE_readNumber C0 hap ho_v0 hf hP hS hl)
abbrev rm_RE_wantStop : Room := { frames := 1, cells := 0, slots := 0, locals := 20 }
theorem dd_RE_wantStop_0 : decode bb_RE_wantStop 0 = .ok (.aload_n 0, 1) := by decide +kernel
theorem dd_RE_wantStop_1 : decode bb_RE_wantStop 1 = .ok (.getfield 38, 3) := by decide +kernel
theorem dd_RE_wantStop_4 : decode bb_RE_wantStop 4 = .ok (.iconst 3, 1) := by decide +kernel
theorem dd_RE_wantStop_5 : decode bb_RE_wantStop 5 = .ok (.if_icmp .eq 7, 3) := by decide +kernel
theorem dd_RE_wantStop_8 : decode bb_RE_wantStop 8 = .ok (.aload_n 0, 1) := by decide +kernel
theorem dd_RE_wantStop_9 : decode bb_RE_wantStop 9 = .ok (.invokevirtual 78, 3) := by decide +kernel
theorem dd_RE_wantStop_12 : decode bb_RE_wantStop 12 = .ok (.return_, 1) := by decide +kernel
def ff_RE_wantStop  (x : St) (v0 : Nat) : Option (Unit × St) := (if (gi x v0 5) = 3 then some ((), x) else bnd (ff_RE_blame x v0) (fun _ x_3 => some ((), x_3)))
set_option maxHeartbeats 4000000 in
set_option maxRecDepth 100000 in
theorem ww_RE_wantStop {p : Program} {l : Launch} {e : Env} {s : State} {m : MethodId} {args : Array Value} {below : List Frame} {meth : Method} {c : Code} {E : Ev} {A : Nat → Prop} {ad : Nat → Nat} {r : Unit} {x' : St} (C0 : Cx E A RRE bb_RE_wantStop 1 (none) p s m args meth c) (hap : Ap ad ixC A)  {x : St} {v0 : Nat} (ho_v0 : isO ixC v0 3) (hf : ff_RE_wantStop x v0 = some (r, x')) {H : Heap} {locs : List Loc} {ls : Array Slot} (hP : Wd E ad ixC x H) (hS : va_S A s.heap H locs) (hl : lv_has ls 1 [(0, .ref (ad v0))]) : W p l e rm_RE_wantStop s m args below meth c H locs 0 0 (MQ below (QX E ad ixC A (none) x') args s 0 0 A) (F0 m 0 ls []) := by
  obtain ⟨hx, hb, hml, hr, hown, hts, hlk, hK⟩ := id C0
  have hf : (if (gi x v0 5) = 3 then some ((), x) else bnd (ff_RE_blame x v0) (fun _ x_3 => some ((), x_3))) = some (r, x') := hf
  refine lv_aload_n hx hb dd_RE_wantStop_0 rfl (lv_at hl 0 rfl) ?_
  refine gf_RE_38 C0 hP ho_v0 dd_RE_wantStop_1 ?_
  refine lv_iconst (v := 3) hx hb dd_RE_wantStop_4 (by decide) ?_
  refine lv_icmp_eq (tgt := 12) hx hb dd_RE_wantStop_5 (by decide) (fun h_1 => ?_) (fun h_1 => ?_)
  · have hf := (if_pos h_1).symm.trans hf
    exact rrV C0 hP hS dd_RE_wantStop_12 hf
  · have hf := (if_neg h_1).symm.trans hf
    refine lv_aload_n hx hb dd_RE_wantStop_8 rfl (lv_at hl 0 rfl) ?_
    obtain ⟨_, x_3, c_4, hf⟩ := of_bnd hf
    refine cl_RE_78 C0 hap ho_v0 c_4 hP hS ⟨Nat.le_of_ble_eq_true rfl, Nat.le_of_ble_eq_true rfl⟩ hl.1 (Nat.le_of_ble_eq_true rfl) dd_RE_wantStop_9 ⟨Nat.le_refl _, Nat.le_refl _⟩ (fun H locs hP hS => ?_)
    exact rrV C0 hP hS dd_RE_wantStop_12 hf
theorem cc_RE_wantStop {l : Launch} {E : Ev} {A : Nat → Prop} {ad : Nat → Nat} (hap : Ap ad ixC A) {x x' : St} {v0 : Nat} {r : Unit} (ho_v0 : isO ixC v0 3) (hf : ff_RE_wantStop x v0 = some (r, x')) : Met l yy_RE_wantStop (Cond.code yy_RE_wantStop bb_RE_wantStop 1 (none) :: gtb) rm_RE_wantStop (va_Pc [.ref (ad v0)] (PB E A ad ixC x)) (QX E ad ixC A (none) x') 0 0 A := by
  exact enter (by decide) (Nat.le_of_ble_eq_true rfl) (fun p e s m below meth c ls C0 hP hS hl => ww_RE_wantStop C0 hap ho_v0 hf hP hS hl)
theorem cl_RE_127 {p : Program} {l : Launch} {e : Env} {R : Room} {s : State} {m : MethodId} {args : Array Value} {below : List Frame} {meth : Method} {c : Code} {H : Heap} {locs : List Loc} {cells slots : Nat} {Q : State → Prop} {cc : ByteArray} {pc : Nat} {ls : Array Slot} {rest : List Value} {E : Ev} {A : Nat → Prop} {ad : Nat → Nat} {nL : Nat} {rt : Option FieldType} (C0 : Cx E A RRE cc nL rt p s m args meth c) (hap : Ap ad ixC A) {x x' : St} {v0 : Nat} {r : Unit} (ho_v0 : isO ixC v0 3) (hc : ff_RE_wantStop x v0 = some (r, x')) (hP : Wd E ad ixC x H) (hS : va_S A s.heap H locs) (hR : rm_RE_wantStop.frames + 1 ≤ R.frames ∧ 8 + (1 + 11) + rm_RE_wantStop.locals ≤ R.locals) (hls : ls.size = nL) (hroom : (rest.map fun v => v.category).sum ≤ 8) (hdg : decode cc pc = .ok (.invokevirtual 127, 3)) (hf : cells ≤ R.cells ∧ slots ≤ R.slots) (kk : ∀ H1 locs1, Wd E ad ixC x' H1 → va_S A s.heap H1 locs1 → W p l e R s m args below meth c H1 locs1 cells slots Q (F0 m (pc + 3) ls (rest))) : W p l e R s m args below meth c H locs cells slots Q (F0 m pc ls (.ref (ad v0) :: rest)) :=
  rcV (n := 0) C0 (cc_RE_wantStop hap ho_v0 hc) hP hS ho_v0 vcl_3 (by decide) gw_code_RE_wantStop gw_m_RE_127 gw_inst_RE_wantStop gw_sel_RE_wantStop gw_ini_RE rfl rfl (by decide +kernel) rfl hR hls rfl hroom hdg hf (fun H1 locs1 a _ _ b => kk H1 locs1 a b)
abbrev rm_RE_readStop : Room := { frames := 3, cells := 0, slots := 0, locals := 60 }
theorem dd_RE_readStop_0 : decode bb_RE_readStop 0 = .ok (.aload_n 0, 1) := by decide +kernel
theorem dd_RE_readStop_1 : decode bb_RE_readStop 1 = .ok (.getfield 15, 3) := by decide +kernel
theorem dd_RE_readStop_4 : decode bb_RE_readStop 4 = .ok (.iconst (-1), 1) := by decide +kernel
theorem dd_RE_readStop_5 : decode bb_RE_readStop 5 = .ok (.if_icmp .ne 11, 3) := by decide +kernel
theorem dd_RE_readStop_8 : decode bb_RE_readStop 8 = .ok (.aload_n 0, 1) := by decide +kernel
theorem dd_RE_readStop_9 : decode bb_RE_readStop 9 = .ok (.invokevirtual 35, 3) := by decide +kernel
theorem dd_RE_readStop_12 : decode bb_RE_readStop 12 = .ok (.aload_n 0, 1) := by decide +kernel
theorem dd_RE_readStop_13 : decode bb_RE_readStop 13 = .ok (.invokevirtual 127, 3) := by decide +kernel
theorem dd_RE_readStop_16 : decode bb_RE_readStop 16 = .ok (.return_, 1) := by decide +kernel
def ff_RE_readStop  (x : St) (v0 : Nat) : Option (Unit × St) := (if (gi x v0 3) = (-1) then bnd (ff_RE_nextToken x v0) (fun _ x_3 => bnd (ff_RE_wantStop x_3 v0) (fun _ x_6 => some ((), x_6))) else some ((), x))
set_option maxHeartbeats 4000000 in
set_option maxRecDepth 100000 in
theorem ww_RE_readStop {p : Program} {l : Launch} {e : Env} {s : State} {m : MethodId} {args : Array Value} {below : List Frame} {meth : Method} {c : Code} {E : Ev} {A : Nat → Prop} {ad : Nat → Nat} {r : Unit} {x' : St} (C0 : Cx E A RRE bb_RE_readStop 1 (none) p s m args meth c) (hap : Ap ad ixC A)  {x : St} {v0 : Nat} (ho_v0 : isO ixC v0 3) (hf : ff_RE_readStop x v0 = some (r, x')) {H : Heap} {locs : List Loc} {ls : Array Slot} (hP : Wd E ad ixC x H) (hS : va_S A s.heap H locs) (hl : lv_has ls 1 [(0, .ref (ad v0))]) : W p l e rm_RE_readStop s m args below meth c H locs 0 0 (MQ below (QX E ad ixC A (none) x') args s 0 0 A) (F0 m 0 ls []) := by
  obtain ⟨hx, hb, hml, hr, hown, hts, hlk, hK⟩ := id C0
  have hf : (if (gi x v0 3) = (-1) then bnd (ff_RE_nextToken x v0) (fun _ x_3 => bnd (ff_RE_wantStop x_3 v0) (fun _ x_6 => some ((), x_6))) else some ((), x)) = some (r, x') := hf
  refine lv_aload_n hx hb dd_RE_readStop_0 rfl (lv_at hl 0 rfl) ?_
  refine gf_RE_15 C0 hP ho_v0 dd_RE_readStop_1 ?_
  refine lv_iconst (v := -1) hx hb dd_RE_readStop_4 (by decide) ?_
  refine lv_icmp_ne (tgt := 16) hx hb dd_RE_readStop_5 (by decide) (fun h_1 => ?_) (fun h_1 => ?_)
  · have hf := (if_neg h_1).symm.trans hf
    exact rrV C0 hP hS dd_RE_readStop_16 hf
  · have hf := (if_pos h_1).symm.trans hf
    refine lv_aload_n hx hb dd_RE_readStop_8 rfl (lv_at hl 0 rfl) ?_
    obtain ⟨_, x_3, c_4, hf⟩ := of_bnd hf
    refine cl_RE_35 C0 hap ho_v0 c_4 hP hS ⟨Nat.le_of_ble_eq_true rfl, Nat.le_of_ble_eq_true rfl⟩ hl.1 (Nat.le_of_ble_eq_true rfl) dd_RE_readStop_9 ⟨Nat.le_refl _, Nat.le_refl _⟩ (fun H locs hP hS => ?_)
    refine lv_aload_n hx hb dd_RE_readStop_12 rfl (lv_at hl 0 rfl) ?_
    obtain ⟨_, x_6, c_7, hf⟩ := of_bnd hf
    refine cl_RE_127 C0 hap ho_v0 c_7 hP hS ⟨Nat.le_of_ble_eq_true rfl, Nat.le_of_ble_eq_true rfl⟩ hl.1 (Nat.le_of_ble_eq_true rfl) dd_RE_readStop_13 ⟨Nat.le_refl _, Nat.le_refl _⟩ (fun H locs hP hS => ?_)
    exact rrV C0 hP hS dd_RE_readStop_16 hf
theorem cc_RE_readStop {l : Launch} {E : Ev} {A : Nat → Prop} {ad : Nat → Nat} (hap : Ap ad ixC A) {x x' : St} {v0 : Nat} {r : Unit} (ho_v0 : isO ixC v0 3) (hf : ff_RE_readStop x v0 = some (r, x')) : Met l yy_RE_readStop (Cond.code yy_RE_readStop bb_RE_readStop 1 (none) :: gtb) rm_RE_readStop (va_Pc [.ref (ad v0)] (PB E A ad ixC x)) (QX E ad ixC A (none) x') 0 0 A := by
  exact enter (by decide) (Nat.le_of_ble_eq_true rfl) (fun p e s m below meth c ls C0 hP hS hl => ww_RE_readStop C0 hap ho_v0 hf hP hS hl)
theorem cl_RE_85 {p : Program} {l : Launch} {e : Env} {R : Room} {s : State} {m : MethodId} {args : Array Value} {below : List Frame} {meth : Method} {c : Code} {H : Heap} {locs : List Loc} {cells slots : Nat} {Q : State → Prop} {cc : ByteArray} {pc : Nat} {ls : Array Slot} {rest : List Value} {E : Ev} {A : Nat → Prop} {ad : Nat → Nat} {nL : Nat} {rt : Option FieldType} (C0 : Cx E A RRE cc nL rt p s m args meth c) (hap : Ap ad ixC A) {x x' : St} {v0 : Nat} {v1 : Nat} {r : Unit} (ho_v0 : isO ixC v0 3) (ho_v1 : isO ixC v1 1) (hc : ff_RE_wantRoom x v0 v1 = some (r, x')) (hP : Wd E ad ixC x H) (hS : va_S A s.heap H locs) (hR : rm_RE_wantRoom.frames + 1 ≤ R.frames ∧ 8 + (2 + 11) + rm_RE_wantRoom.locals ≤ R.locals) (hls : ls.size = nL) (hroom : (rest.map fun v => v.category).sum ≤ 8) (hdg : decode cc pc = .ok (.invokevirtual 85, 3)) (hf : cells ≤ R.cells ∧ slots ≤ R.slots) (kk : ∀ H1 locs1, Wd E ad ixC x' H1 → va_S A s.heap H1 locs1 → W p l e R s m args below meth c H1 locs1 cells slots Q (F0 m (pc + 3) ls (rest))) : W p l e R s m args below meth c H locs cells slots Q (F0 m pc ls (.ref (ad v1) :: .ref (ad v0) :: rest)) :=
  rcV (n := 1) C0 (cc_RE_wantRoom hap ho_v0 ho_v1 hc) hP hS ho_v0 vcl_3 (by decide) gw_code_RE_wantRoom gw_m_RE_85 gw_inst_RE_wantRoom gw_sel_RE_wantRoom gw_ini_RE rfl rfl (by decide +kernel) rfl hR hls rfl hroom hdg hf (fun H1 locs1 a _ _ b => kk H1 locs1 a b)
theorem cl_RE_89 {p : Program} {l : Launch} {e : Env} {R : Room} {s : State} {m : MethodId} {args : Array Value} {below : List Frame} {meth : Method} {c : Code} {H : Heap} {locs : List Loc} {cells slots : Nat} {Q : State → Prop} {cc : ByteArray} {pc : Nat} {ls : Array Slot} {rest : List Value} {E : Ev} {A : Nat → Prop} {ad : Nat → Nat} {nL : Nat} {rt : Option FieldType} (C0 : Cx E A RRE cc nL rt p s m args meth c) (hap : Ap ad ixC A) {x x' : St} {v0 : Nat} {v1 : Int32} {v2 : Int32} {r : Int32} (ho_v0 : isO ixC v0 3) (hc : ff_RE_readNumber x v0 v1 v2 = some (r, x')) (hP : Wd E ad ixC x H) (hS : va_S A s.heap H locs) (hR : rm_RE_readNumber.frames + 1 ≤ R.frames ∧ 8 + (3 + 11) + rm_RE_readNumber.locals ≤ R.locals) (hls : ls.size = nL) (hroom : (rest.map fun v => v.category).sum ≤ 8) (hdg : decode cc pc = .ok (.invokevirtual 89, 3)) (hf : cells ≤ R.cells ∧ slots ≤ R.slots) (kk : ∀ H1 locs1, Wd E ad ixC x' H1 → va_S A s.heap H1 locs1 → W p l e R s m args below meth c H1 locs1 cells slots Q (F0 m (pc + 3) ls (.int r :: rest))) : W p l e R s m args below meth c H locs cells slots Q (F0 m pc ls (.int v2 :: .int v1 :: .ref (ad v0) :: rest)) :=
  rcV (n := 2) C0 (cc_RE_readNumber hap ho_v0 hc) hP hS ho_v0 vcl_3 (by decide) gw_code_RE_readNumber gw_m_RE_89 gw_inst_RE_readNumber gw_sel_RE_readNumber gw_ini_RE rfl rfl (by decide +kernel) rfl hR hls rfl hroom hdg hf (fun H1 locs1 a _ _ b => kk H1 locs1 a b)
theorem cl_RE_93 {p : Program} {l : Launch} {e : Env} {R : Room} {s : State} {m : MethodId} {args : Array Value} {below : List Frame} {meth : Method} {c : Code} {H : Heap} {locs : List Loc} {cells slots : Nat} {Q : State → Prop} {cc : ByteArray} {pc : Nat} {ls : Array Slot} {rest : List Value} {E : Ev} {A : Nat → Prop} {ad : Nat → Nat} {nL : Nat} {rt : Option FieldType} (C0 : Cx E A RRE cc nL rt p s m args meth c) (hap : Ap ad ixC A) {x x' : St} {v0 : Nat} {r : Unit} (ho_v0 : isO ixC v0 3) (hc : ff_RE_readStop x v0 = some (r, x')) (hP : Wd E ad ixC x H) (hS : va_S A s.heap H locs) (hR : rm_RE_readStop.frames + 1 ≤ R.frames ∧ 8 + (1 + 11) + rm_RE_readStop.locals ≤ R.locals) (hls : ls.size = nL) (hroom : (rest.map fun v => v.category).sum ≤ 8) (hdg : decode cc pc = .ok (.invokevirtual 93, 3)) (hf : cells ≤ R.cells ∧ slots ≤ R.slots) (kk : ∀ H1 locs1, Wd E ad ixC x' H1 → va_S A s.heap H1 locs1 → W p l e R s m args below meth c H1 locs1 cells slots Q (F0 m (pc + 3) ls (rest))) : W p l e R s m args below meth c H locs cells slots Q (F0 m pc ls (.ref (ad v0) :: rest)) :=
  rcV (n := 0) C0 (cc_RE_readStop hap ho_v0 hc) hP hS ho_v0 vcl_3 (by decide) gw_code_RE_readStop gw_m_RE_93 gw_inst_RE_readStop gw_sel_RE_readStop gw_ini_RE rfl rfl (by decide +kernel) rfl hR hls rfl hroom hdg hf (fun H1 locs1 a _ _ b => kk H1 locs1 a b)
theorem cl_RE_96 {p : Program} {l : Launch} {e : Env} {R : Room} {s : State} {m : MethodId} {args : Array Value} {below : List Frame} {meth : Method} {c : Code} {H : Heap} {locs : List Loc} {cells slots : Nat} {Q : State → Prop} {cc : ByteArray} {pc : Nat} {ls : Array Slot} {rest : List Value} {E : Ev} {A : Nat → Prop} {ad : Nat → Nat} {nL : Nat} {rt : Option FieldType} (C0 : Cx E A RRE cc nL rt p s m args meth c) (hap : Ap ad ixC A) {x x' : St} {v0 : Nat} {v1 : Int32} {v2 : Int32} {v3 : Int32} {r : Int32} (ho_v0 : isO ixC v0 1) (hc : ff_LE_add x v0 v1 v2 v3 = some (r, x')) (hP : Wd E ad ixC x H) (hS : va_S A s.heap H locs) (hR : rm_LE_add.frames + 1 ≤ R.frames ∧ 8 + (5 + 11) + rm_LE_add.locals ≤ R.locals) (hls : ls.size = nL) (hroom : (rest.map fun v => v.category).sum ≤ 8) (hdg : decode cc pc = .ok (.invokevirtual 96, 3)) (hf : cells ≤ R.cells ∧ slots ≤ R.slots) (kk : ∀ H1 locs1, Wd E ad ixC x' H1 → va_S A s.heap H1 locs1 → W p l e R s m args below meth c H1 locs1 cells slots Q (F0 m (pc + 3) ls (.int r :: rest))) : W p l e R s m args below meth c H locs cells slots Q (F0 m pc ls (.int v3 :: .int v2 :: .int v1 :: .ref (ad v0) :: rest)) :=
  rcV (n := 3) C0 (cc_LE_add hap ho_v0 hc) hP hS ho_v0 vcl_1 (by decide) gw_code_LE_add gw_m_RE_96 gw_inst_LE_add gw_sel_LE_add gw_ini_LE rfl rfl (by decide +kernel) rfl hR hls rfl hroom hdg hf (fun H1 locs1 a _ _ b => kk H1 locs1 a b)
abbrev rm_RE_readMourner : Room := { frames := 4, cells := 0, slots := 0, locals := 82 }
theorem dd_RE_readMourner_0 : decode bb_RE_readMourner 0 = .ok (.aload_n 0, 1) := by decide +kernel
theorem dd_RE_readMourner_1 : decode bb_RE_readMourner 1 = .ok (.aload_n 0, 1) := by decide +kernel
theorem dd_RE_readMourner_2 : decode bb_RE_readMourner 2 = .ok (.getfield 22, 3) := by decide +kernel
theorem dd_RE_readMourner_5 : decode bb_RE_readMourner 5 = .ok (.getfield 81, 3) := by decide +kernel
theorem dd_RE_readMourner_8 : decode bb_RE_readMourner 8 = .ok (.invokevirtual 85, 3) := by decide +kernel
theorem dd_RE_readMourner_11 : decode bb_RE_readMourner 11 = .ok (.aload_n 0, 1) := by decide +kernel
theorem dd_RE_readMourner_12 : decode bb_RE_readMourner 12 = .ok (.iconst 0, 1) := by decide +kernel
theorem dd_RE_readMourner_13 : decode bb_RE_readMourner 13 = .ok (.iconst 5, 1) := by decide +kernel
theorem dd_RE_readMourner_14 : decode bb_RE_readMourner 14 = .ok (.invokevirtual 89, 3) := by decide +kernel
theorem dd_RE_readMourner_17 : decode bb_RE_readMourner 17 = .ok (.istore_n 1, 1) := by decide +kernel
theorem dd_RE_readMourner_18 : decode bb_RE_readMourner 18 = .ok (.aload_n 0, 1) := by decide +kernel
theorem dd_RE_readMourner_19 : decode bb_RE_readMourner 19 = .ok (.iconst 0, 1) := by decide +kernel
theorem dd_RE_readMourner_20 : decode bb_RE_readMourner 20 = .ok (.bipush 99, 2) := by decide +kernel
theorem dd_RE_readMourner_22 : decode bb_RE_readMourner 22 = .ok (.invokevirtual 89, 3) := by decide +kernel
theorem dd_RE_readMourner_25 : decode bb_RE_readMourner 25 = .ok (.istore_n 2, 1) := by decide +kernel
theorem dd_RE_readMourner_26 : decode bb_RE_readMourner 26 = .ok (.aload_n 0, 1) := by decide +kernel
theorem dd_RE_readMourner_27 : decode bb_RE_readMourner 27 = .ok (.iconst 0, 1) := by decide +kernel
theorem dd_RE_readMourner_28 : decode bb_RE_readMourner 28 = .ok (.bipush 99, 2) := by decide +kernel
theorem dd_RE_readMourner_30 : decode bb_RE_readMourner 30 = .ok (.invokevirtual 89, 3) := by decide +kernel
theorem dd_RE_readMourner_33 : decode bb_RE_readMourner 33 = .ok (.istore_n 3, 1) := by decide +kernel
theorem dd_RE_readMourner_34 : decode bb_RE_readMourner 34 = .ok (.aload_n 0, 1) := by decide +kernel
theorem dd_RE_readMourner_35 : decode bb_RE_readMourner 35 = .ok (.invokevirtual 93, 3) := by decide +kernel
theorem dd_RE_readMourner_38 : decode bb_RE_readMourner 38 = .ok (.aload_n 0, 1) := by decide +kernel
theorem dd_RE_readMourner_39 : decode bb_RE_readMourner 39 = .ok (.getfield 15, 3) := by decide +kernel
theorem dd_RE_readMourner_42 : decode bb_RE_readMourner 42 = .ok (.iconst (-1), 1) := by decide +kernel
theorem dd_RE_readMourner_43 : decode bb_RE_readMourner 43 = .ok (.if_icmp .ne 17, 3) := by decide +kernel
theorem dd_RE_readMourner_46 : decode bb_RE_readMourner 46 = .ok (.aload_n 0, 1) := by decide +kernel
theorem dd_RE_readMourner_47 : decode bb_RE_readMourner 47 = .ok (.getfield 22, 3) := by decide +kernel
theorem dd_RE_readMourner_50 : decode bb_RE_readMourner 50 = .ok (.getfield 81, 3) := by decide +kernel
theorem dd_RE_readMourner_53 : decode bb_RE_readMourner 53 = .ok (.iload_n 1, 1) := by decide +kernel
theorem dd_RE_readMourner_54 : decode bb_RE_readMourner 54 = .ok (.iload_n 2, 1) := by decide +kernel
theorem dd_RE_readMourner_55 : decode bb_RE_readMourner 55 = .ok (.iload_n 3, 1) := by decide +kernel
theorem dd_RE_readMourner_56 : decode bb_RE_readMourner 56 = .ok (.invokevirtual 96, 3) := by decide +kernel
theorem dd_RE_readMourner_59 : decode bb_RE_readMourner 59 = .ok (.pop, 1) := by decide +kernel
theorem dd_RE_readMourner_60 : decode bb_RE_readMourner 60 = .ok (.return_, 1) := by decide +kernel
def ff_RE_readMourner  (x : St) (v0 : Nat) : Option (Unit × St) := bnd (ff_RE_wantRoom x v0 (rf (rf v0 4) 0)) (fun _ x_2 => bnd (ff_RE_readNumber x_2 v0 0 5) (fun r_4 x_5 => bnd (ff_RE_readNumber x_5 v0 0 99) (fun r_7 x_8 => bnd (ff_RE_readNumber x_8 v0 0 99) (fun r_10 x_11 => bnd (ff_RE_readStop x_11 v0) (fun _ x_14 => (if (gi x_14 v0 3) = (-1) then bnd (ff_LE_add x_14 (rf (rf v0 4) 0) r_4 r_7 r_10) (fun r_17 x_18 => some ((), x_18)) else some ((), x_14)))))))
set_option maxHeartbeats 4000000 in
set_option maxRecDepth 100000 in
theorem ww_RE_readMourner {p : Program} {l : Launch} {e : Env} {s : State} {m : MethodId} {args : Array Value} {below : List Frame} {meth : Method} {c : Code} {E : Ev} {A : Nat → Prop} {ad : Nat → Nat} {r : Unit} {x' : St} (C0 : Cx E A RRE bb_RE_readMourner 4 (none) p s m args meth c) (hap : Ap ad ixC A)  {x : St} {v0 : Nat} (ho_v0 : isO ixC v0 3) (hf : ff_RE_readMourner x v0 = some (r, x')) {H : Heap} {locs : List Loc} {ls : Array Slot} (hP : Wd E ad ixC x H) (hS : va_S A s.heap H locs) (hl : lv_has ls 4 [(0, .ref (ad v0))]) : W p l e rm_RE_readMourner s m args below meth c H locs 0 0 (MQ below (QX E ad ixC A (none) x') args s 0 0 A) (F0 m 0 ls []) := by
  obtain ⟨hx, hb, hml, hr, hown, hts, hlk, hK⟩ := id C0
  have hf : bnd (ff_RE_wantRoom x v0 (rf (rf v0 4) 0)) (fun _ x_2 => bnd (ff_RE_readNumber x_2 v0 0 5) (fun r_4 x_5 => bnd (ff_RE_readNumber x_5 v0 0 99) (fun r_7 x_8 => bnd (ff_RE_readNumber x_8 v0 0 99) (fun r_10 x_11 => bnd (ff_RE_readStop x_11 v0) (fun _ x_14 => (if (gi x_14 v0 3) = (-1) then bnd (ff_LE_add x_14 (rf (rf v0 4) 0) r_4 r_7 r_10) (fun r_17 x_18 => some ((), x_18)) else some ((), x_14))))))) = some (r, x') := hf
  refine lv_aload_n hx hb dd_RE_readMourner_0 rfl (lv_at hl 0 rfl) ?_
  refine lv_aload_n hx hb dd_RE_readMourner_1 rfl (lv_at hl 0 rfl) ?_
  refine gf_RE_22 C0 hP ho_v0 dd_RE_readMourner_2 ?_
  refine gf_RE_81 C0 hP (tp_3_4 ho_v0) dd_RE_readMourner_5 ?_
  obtain ⟨_, x_2, c_3, hf⟩ := of_bnd hf
  refine cl_RE_85 C0 hap ho_v0 (tp_4_0 (tp_3_4 ho_v0)) c_3 hP hS ⟨Nat.le_of_ble_eq_true rfl, Nat.le_of_ble_eq_true rfl⟩ hl.1 (Nat.le_of_ble_eq_true rfl) dd_RE_readMourner_8 ⟨Nat.le_refl _, Nat.le_refl _⟩ (fun H locs hP hS => ?_)
  refine lv_aload_n hx hb dd_RE_readMourner_11 rfl (lv_at hl 0 rfl) ?_
  refine lv_iconst (v := 0) hx hb dd_RE_readMourner_12 (by decide) ?_
  refine lv_iconst (v := 5) hx hb dd_RE_readMourner_13 (by decide) ?_
  obtain ⟨r_4, x_5, c_6, hf⟩ := of_bnd hf
  refine cl_RE_89 C0 hap ho_v0 c_6 hP hS ⟨Nat.le_of_ble_eq_true rfl, Nat.le_of_ble_eq_true rfl⟩ hl.1 (Nat.le_of_ble_eq_true rfl) dd_RE_readMourner_14 ⟨Nat.le_refl _, Nat.le_refl _⟩ (fun H locs hP hS => ?_)
  refine lv_istore_n (lv' := [(1, .int r_4), (0, .ref (ad v0))]) hx hb dd_RE_readMourner_17 rfl hl (by decide) rfl (fun ls hl => ?_)
  refine lv_aload_n hx hb dd_RE_readMourner_18 rfl (lv_at hl 1 rfl) ?_
  refine lv_iconst (v := 0) hx hb dd_RE_readMourner_19 (by decide) ?_
  refine lv_bipush (v := 99) hx hb dd_RE_readMourner_20 (by decide) ?_
  obtain ⟨r_7, x_8, c_9, hf⟩ := of_bnd hf
  refine cl_RE_89 C0 hap ho_v0 c_9 hP hS ⟨Nat.le_of_ble_eq_true rfl, Nat.le_of_ble_eq_true rfl⟩ hl.1 (Nat.le_of_ble_eq_true rfl) dd_RE_readMourner_22 ⟨Nat.le_refl _, Nat.le_refl _⟩ (fun H locs hP hS => ?_)
  refine lv_istore_n (lv' := [(2, .int r_7), (1, .int r_4), (0, .ref (ad v0))]) hx hb dd_RE_readMourner_25 rfl hl (by decide) rfl (fun ls hl => ?_)
  refine lv_aload_n hx hb dd_RE_readMourner_26 rfl (lv_at hl 2 rfl) ?_
  refine lv_iconst (v := 0) hx hb dd_RE_readMourner_27 (by decide) ?_
  refine lv_bipush (v := 99) hx hb dd_RE_readMourner_28 (by decide) ?_
  obtain ⟨r_10, x_11, c_12, hf⟩ := of_bnd hf
  refine cl_RE_89 C0 hap ho_v0 c_12 hP hS ⟨Nat.le_of_ble_eq_true rfl, Nat.le_of_ble_eq_true rfl⟩ hl.1 (Nat.le_of_ble_eq_true rfl) dd_RE_readMourner_30 ⟨Nat.le_refl _, Nat.le_refl _⟩ (fun H locs hP hS => ?_)
  refine lv_istore_n (lv' := [(3, .int r_10), (2, .int r_7), (1, .int r_4), (0, .ref (ad v0))]) hx hb dd_RE_readMourner_33 rfl hl (by decide) rfl (fun ls hl => ?_)
  refine lv_aload_n hx hb dd_RE_readMourner_34 rfl (lv_at hl 3 rfl) ?_
  obtain ⟨_, x_14, c_15, hf⟩ := of_bnd hf
  refine cl_RE_93 C0 hap ho_v0 c_15 hP hS ⟨Nat.le_of_ble_eq_true rfl, Nat.le_of_ble_eq_true rfl⟩ hl.1 (Nat.le_of_ble_eq_true rfl) dd_RE_readMourner_35 ⟨Nat.le_refl _, Nat.le_refl _⟩ (fun H locs hP hS => ?_)
  refine lv_aload_n hx hb dd_RE_readMourner_38 rfl (lv_at hl 3 rfl) ?_
  refine gf_RE_15 C0 hP ho_v0 dd_RE_readMourner_39 ?_
  refine lv_iconst (v := -1) hx hb dd_RE_readMourner_42 (by decide) ?_
  refine lv_icmp_ne (tgt := 60) hx hb dd_RE_readMourner_43 (by decide) (fun h_16 => ?_) (fun h_16 => ?_)
  · have hf := (if_neg h_16).symm.trans hf
    exact rrV C0 hP hS dd_RE_readMourner_60 hf
  · have hf := (if_pos h_16).symm.trans hf
    refine lv_aload_n hx hb dd_RE_readMourner_46 rfl (lv_at hl 3 rfl) ?_
    refine gf_RE_22 C0 hP ho_v0 dd_RE_readMourner_47 ?_
    refine gf_RE_81 C0 hP (tp_3_4 ho_v0) dd_RE_readMourner_50 ?_
    refine lv_iload_n hx hb dd_RE_readMourner_53 rfl (lv_at hl 2 rfl) ?_
    refine lv_iload_n hx hb dd_RE_readMourner_54 rfl (lv_at hl 1 rfl) ?_
    refine lv_iload_n hx hb dd_RE_readMourner_55 rfl (lv_at hl 0 rfl) ?_
    obtain ⟨r_17, x_18, c_19, hf⟩ := of_bnd hf
    refine cl_RE_96 C0 hap (tp_4_0 (tp_3_4 ho_v0)) c_19 hP hS ⟨Nat.le_of_ble_eq_true rfl, Nat.le_of_ble_eq_true rfl⟩ hl.1 (Nat.le_of_ble_eq_true rfl) dd_RE_readMourner_56 ⟨Nat.le_refl _, Nat.le_refl _⟩ (fun H locs hP hS => ?_)
    refine lv_pop hx hb dd_RE_readMourner_59 rfl ?_
    exact rrV C0 hP hS dd_RE_readMourner_60 hf
theorem cc_RE_readMourner {l : Launch} {E : Ev} {A : Nat → Prop} {ad : Nat → Nat} (hap : Ap ad ixC A) {x x' : St} {v0 : Nat} {r : Unit} (ho_v0 : isO ixC v0 3) (hf : ff_RE_readMourner x v0 = some (r, x')) : Met l yy_RE_readMourner (Cond.code yy_RE_readMourner bb_RE_readMourner 4 (none) :: gtb) rm_RE_readMourner (va_Pc [.ref (ad v0)] (PB E A ad ixC x)) (QX E ad ixC A (none) x') 0 0 A := by
  exact enter (by decide) (Nat.le_of_ble_eq_true rfl) (fun p e s m below meth c ls C0 hP hS hl => ww_RE_readMourner C0 hap ho_v0 hf hP hS hl)
abbrev rm_RE_readJoint : Room := { frames := 4, cells := 0, slots := 0, locals := 82 }
theorem dd_RE_readJoint_0 : decode bb_RE_readJoint 0 = .ok (.aload_n 0, 1) := by decide +kernel
theorem dd_RE_readJoint_1 : decode bb_RE_readJoint 1 = .ok (.aload_n 0, 1) := by decide +kernel
theorem dd_RE_readJoint_2 : decode bb_RE_readJoint 2 = .ok (.getfield 22, 3) := by decide +kernel
theorem dd_RE_readJoint_5 : decode bb_RE_readJoint 5 = .ok (.getfield 102, 3) := by decide +kernel
theorem dd_RE_readJoint_8 : decode bb_RE_readJoint 8 = .ok (.invokevirtual 85, 3) := by decide +kernel
theorem dd_RE_readJoint_11 : decode bb_RE_readJoint 11 = .ok (.aload_n 0, 1) := by decide +kernel
theorem dd_RE_readJoint_12 : decode bb_RE_readJoint 12 = .ok (.iconst 0, 1) := by decide +kernel
theorem dd_RE_readJoint_13 : decode bb_RE_readJoint 13 = .ok (.bipush 99, 2) := by decide +kernel
theorem dd_RE_readJoint_15 : decode bb_RE_readJoint 15 = .ok (.invokevirtual 89, 3) := by decide +kernel
theorem dd_RE_readJoint_18 : decode bb_RE_readJoint 18 = .ok (.istore_n 1, 1) := by decide +kernel
theorem dd_RE_readJoint_19 : decode bb_RE_readJoint 19 = .ok (.aload_n 0, 1) := by decide +kernel
theorem dd_RE_readJoint_20 : decode bb_RE_readJoint 20 = .ok (.invokevirtual 93, 3) := by decide +kernel
theorem dd_RE_readJoint_23 : decode bb_RE_readJoint 23 = .ok (.aload_n 0, 1) := by decide +kernel
theorem dd_RE_readJoint_24 : decode bb_RE_readJoint 24 = .ok (.getfield 15, 3) := by decide +kernel
theorem dd_RE_readJoint_27 : decode bb_RE_readJoint 27 = .ok (.iconst (-1), 1) := by decide +kernel
theorem dd_RE_readJoint_28 : decode bb_RE_readJoint 28 = .ok (.if_icmp .ne 17, 3) := by decide +kernel
theorem dd_RE_readJoint_31 : decode bb_RE_readJoint 31 = .ok (.aload_n 0, 1) := by decide +kernel
theorem dd_RE_readJoint_32 : decode bb_RE_readJoint 32 = .ok (.getfield 22, 3) := by decide +kernel
theorem dd_RE_readJoint_35 : decode bb_RE_readJoint 35 = .ok (.getfield 102, 3) := by decide +kernel
theorem dd_RE_readJoint_38 : decode bb_RE_readJoint 38 = .ok (.iload_n 1, 1) := by decide +kernel
theorem dd_RE_readJoint_39 : decode bb_RE_readJoint 39 = .ok (.iconst 0, 1) := by decide +kernel
theorem dd_RE_readJoint_40 : decode bb_RE_readJoint 40 = .ok (.iconst 0, 1) := by decide +kernel
theorem dd_RE_readJoint_41 : decode bb_RE_readJoint 41 = .ok (.invokevirtual 96, 3) := by decide +kernel
theorem dd_RE_readJoint_44 : decode bb_RE_readJoint 44 = .ok (.pop, 1) := by decide +kernel
theorem dd_RE_readJoint_45 : decode bb_RE_readJoint 45 = .ok (.return_, 1) := by decide +kernel
def ff_RE_readJoint  (x : St) (v0 : Nat) : Option (Unit × St) := bnd (ff_RE_wantRoom x v0 (rf (rf v0 4) 1)) (fun _ x_2 => bnd (ff_RE_readNumber x_2 v0 0 99) (fun r_4 x_5 => bnd (ff_RE_readStop x_5 v0) (fun _ x_8 => (if (gi x_8 v0 3) = (-1) then bnd (ff_LE_add x_8 (rf (rf v0 4) 1) r_4 0 0) (fun r_11 x_12 => some ((), x_12)) else some ((), x_8)))))
set_option maxHeartbeats 4000000 in
set_option maxRecDepth 100000 in
theorem ww_RE_readJoint {p : Program} {l : Launch} {e : Env} {s : State} {m : MethodId} {args : Array Value} {below : List Frame} {meth : Method} {c : Code} {E : Ev} {A : Nat → Prop} {ad : Nat → Nat} {r : Unit} {x' : St} (C0 : Cx E A RRE bb_RE_readJoint 2 (none) p s m args meth c) (hap : Ap ad ixC A)  {x : St} {v0 : Nat} (ho_v0 : isO ixC v0 3) (hf : ff_RE_readJoint x v0 = some (r, x')) {H : Heap} {locs : List Loc} {ls : Array Slot} (hP : Wd E ad ixC x H) (hS : va_S A s.heap H locs) (hl : lv_has ls 2 [(0, .ref (ad v0))]) : W p l e rm_RE_readJoint s m args below meth c H locs 0 0 (MQ below (QX E ad ixC A (none) x') args s 0 0 A) (F0 m 0 ls []) := by
  obtain ⟨hx, hb, hml, hr, hown, hts, hlk, hK⟩ := id C0
  have hf : bnd (ff_RE_wantRoom x v0 (rf (rf v0 4) 1)) (fun _ x_2 => bnd (ff_RE_readNumber x_2 v0 0 99) (fun r_4 x_5 => bnd (ff_RE_readStop x_5 v0) (fun _ x_8 => (if (gi x_8 v0 3) = (-1) then bnd (ff_LE_add x_8 (rf (rf v0 4) 1) r_4 0 0) (fun r_11 x_12 => some ((), x_12)) else some ((), x_8))))) = some (r, x') := hf
  refine lv_aload_n hx hb dd_RE_readJoint_0 rfl (lv_at hl 0 rfl) ?_
  refine lv_aload_n hx hb dd_RE_readJoint_1 rfl (lv_at hl 0 rfl) ?_
  refine gf_RE_22 C0 hP ho_v0 dd_RE_readJoint_2 ?_
  refine gf_RE_102 C0 hP (tp_3_4 ho_v0) dd_RE_readJoint_5 ?_
  obtain ⟨_, x_2, c_3, hf⟩ := of_bnd hf
  refine cl_RE_85 C0 hap ho_v0 (tp_4_1 (tp_3_4 ho_v0)) c_3 hP hS ⟨Nat.le_of_ble_eq_true rfl, Nat.le_of_ble_eq_true rfl⟩ hl.1 (Nat.le_of_ble_eq_true rfl) dd_RE_readJoint_8 ⟨Nat.le_refl _, Nat.le_refl _⟩ (fun H locs hP hS => ?_)
  refine lv_aload_n hx hb dd_RE_readJoint_11 rfl (lv_at hl 0 rfl) ?_
  refine lv_iconst (v := 0) hx hb dd_RE_readJoint_12 (by decide) ?_
  refine lv_bipush (v := 99) hx hb dd_RE_readJoint_13 (by decide) ?_
  obtain ⟨r_4, x_5, c_6, hf⟩ := of_bnd hf
  refine cl_RE_89 C0 hap ho_v0 c_6 hP hS ⟨Nat.le_of_ble_eq_true rfl, Nat.le_of_ble_eq_true rfl⟩ hl.1 (Nat.le_of_ble_eq_true rfl) dd_RE_readJoint_15 ⟨Nat.le_refl _, Nat.le_refl _⟩ (fun H locs hP hS => ?_)
  refine lv_istore_n (lv' := [(1, .int r_4), (0, .ref (ad v0))]) hx hb dd_RE_readJoint_18 rfl hl (by decide) rfl (fun ls hl => ?_)
  refine lv_aload_n hx hb dd_RE_readJoint_19 rfl (lv_at hl 1 rfl) ?_
  obtain ⟨_, x_8, c_9, hf⟩ := of_bnd hf
  refine cl_RE_93 C0 hap ho_v0 c_9 hP hS ⟨Nat.le_of_ble_eq_true rfl, Nat.le_of_ble_eq_true rfl⟩ hl.1 (Nat.le_of_ble_eq_true rfl) dd_RE_readJoint_20 ⟨Nat.le_refl _, Nat.le_refl _⟩ (fun H locs hP hS => ?_)
  refine lv_aload_n hx hb dd_RE_readJoint_23 rfl (lv_at hl 1 rfl) ?_
  refine gf_RE_15 C0 hP ho_v0 dd_RE_readJoint_24 ?_
  refine lv_iconst (v := -1) hx hb dd_RE_readJoint_27 (by decide) ?_
  refine lv_icmp_ne (tgt := 45) hx hb dd_RE_readJoint_28 (by decide) (fun h_10 => ?_) (fun h_10 => ?_)
  · have hf := (if_neg h_10).symm.trans hf
    exact rrV C0 hP hS dd_RE_readJoint_45 hf
  · have hf := (if_pos h_10).symm.trans hf
    refine lv_aload_n hx hb dd_RE_readJoint_31 rfl (lv_at hl 1 rfl) ?_
    refine gf_RE_22 C0 hP ho_v0 dd_RE_readJoint_32 ?_
    refine gf_RE_102 C0 hP (tp_3_4 ho_v0) dd_RE_readJoint_35 ?_
    refine lv_iload_n hx hb dd_RE_readJoint_38 rfl (lv_at hl 0 rfl) ?_
    refine lv_iconst (v := 0) hx hb dd_RE_readJoint_39 (by decide) ?_
    refine lv_iconst (v := 0) hx hb dd_RE_readJoint_40 (by decide) ?_
    obtain ⟨r_11, x_12, c_13, hf⟩ := of_bnd hf
    refine cl_RE_96 C0 hap (tp_4_1 (tp_3_4 ho_v0)) c_13 hP hS ⟨Nat.le_of_ble_eq_true rfl, Nat.le_of_ble_eq_true rfl⟩ hl.1 (Nat.le_of_ble_eq_true rfl) dd_RE_readJoint_41 ⟨Nat.le_refl _, Nat.le_refl _⟩ (fun H locs hP hS => ?_)
    refine lv_pop hx hb dd_RE_readJoint_44 rfl ?_
    exact rrV C0 hP hS dd_RE_readJoint_45 hf
theorem cc_RE_readJoint {l : Launch} {E : Ev} {A : Nat → Prop} {ad : Nat → Nat} (hap : Ap ad ixC A) {x x' : St} {v0 : Nat} {r : Unit} (ho_v0 : isO ixC v0 3) (hf : ff_RE_readJoint x v0 = some (r, x')) : Met l yy_RE_readJoint (Cond.code yy_RE_readJoint bb_RE_readJoint 2 (none) :: gtb) rm_RE_readJoint (va_Pc [.ref (ad v0)] (PB E A ad ixC x)) (QX E ad ixC A (none) x') 0 0 A := by
  exact enter (by decide) (Nat.le_of_ble_eq_true rfl) (fun p e s m below meth c ls C0 hP hS hl => ww_RE_readJoint C0 hap ho_v0 hf hP hS hl)
theorem cl_RE_108 {p : Program} {l : Launch} {e : Env} {R : Room} {s : State} {m : MethodId} {args : Array Value} {below : List Frame} {meth : Method} {c : Code} {H : Heap} {locs : List Loc} {cells slots : Nat} {Q : State → Prop} {cc : ByteArray} {pc : Nat} {ls : Array Slot} {rest : List Value} {E : Ev} {A : Nat → Prop} {ad : Nat → Nat} {nL : Nat} {rt : Option FieldType} (C0 : Cx E A RRE cc nL rt p s m args meth c) (hap : Ap ad ixC A) {x x' : St} {v0 : Nat} {r : Int32} (ho_v0 : isO ixC v0 4) (hc : ff_SH_allJoints x v0 = some (r, x')) (hP : Wd E ad ixC x H) (hS : va_S A s.heap H locs) (hR : rm_SH_allJoints.frames + 1 ≤ R.frames ∧ 8 + (1 + 11) + rm_SH_allJoints.locals ≤ R.locals) (hls : ls.size = nL) (hroom : (rest.map fun v => v.category).sum ≤ 8) (hdg : decode cc pc = .ok (.invokevirtual 108, 3)) (hf : cells ≤ R.cells ∧ slots ≤ R.slots) (kk : ∀ H1 locs1, Wd E ad ixC x' H1 → va_S A s.heap H1 locs1 → W p l e R s m args below meth c H1 locs1 cells slots Q (F0 m (pc + 3) ls (.int r :: rest))) : W p l e R s m args below meth c H locs cells slots Q (F0 m pc ls (.ref (ad v0) :: rest)) :=
  rcV (n := 0) C0 (cc_SH_allJoints hap ho_v0 hc) hP hS ho_v0 vcl_4 (by decide) gw_code_SH_allJoints gw_m_RE_108 gw_inst_SH_allJoints gw_sel_SH_allJoints gw_ini_SH rfl rfl (by decide +kernel) rfl hR hls rfl hroom hdg hf (fun H1 locs1 a _ _ b => kk H1 locs1 a b)
abbrev rm_RE_readPiece : Room := { frames := 4, cells := 0, slots := 0, locals := 82 }
theorem dd_RE_readPiece_0 : decode bb_RE_readPiece 0 = .ok (.aload_n 0, 1) := by decide +kernel
theorem dd_RE_readPiece_1 : decode bb_RE_readPiece 1 = .ok (.aload_n 0, 1) := by decide +kernel
theorem dd_RE_readPiece_2 : decode bb_RE_readPiece 2 = .ok (.getfield 22, 3) := by decide +kernel
theorem dd_RE_readPiece_5 : decode bb_RE_readPiece 5 = .ok (.getfield 105, 3) := by decide +kernel
theorem dd_RE_readPiece_8 : decode bb_RE_readPiece 8 = .ok (.invokevirtual 85, 3) := by decide +kernel
theorem dd_RE_readPiece_11 : decode bb_RE_readPiece 11 = .ok (.aload_n 0, 1) := by decide +kernel
theorem dd_RE_readPiece_12 : decode bb_RE_readPiece 12 = .ok (.iconst 1, 1) := by decide +kernel
theorem dd_RE_readPiece_13 : decode bb_RE_readPiece 13 = .ok (.aload_n 0, 1) := by decide +kernel
theorem dd_RE_readPiece_14 : decode bb_RE_readPiece 14 = .ok (.getfield 22, 3) := by decide +kernel
theorem dd_RE_readPiece_17 : decode bb_RE_readPiece 17 = .ok (.invokevirtual 108, 3) := by decide +kernel
theorem dd_RE_readPiece_20 : decode bb_RE_readPiece 20 = .ok (.invokevirtual 89, 3) := by decide +kernel
theorem dd_RE_readPiece_23 : decode bb_RE_readPiece 23 = .ok (.istore_n 1, 1) := by decide +kernel
theorem dd_RE_readPiece_24 : decode bb_RE_readPiece 24 = .ok (.aload_n 0, 1) := by decide +kernel
theorem dd_RE_readPiece_25 : decode bb_RE_readPiece 25 = .ok (.iconst 0, 1) := by decide +kernel
theorem dd_RE_readPiece_26 : decode bb_RE_readPiece 26 = .ok (.bipush 99, 2) := by decide +kernel
theorem dd_RE_readPiece_28 : decode bb_RE_readPiece 28 = .ok (.invokevirtual 89, 3) := by decide +kernel
theorem dd_RE_readPiece_31 : decode bb_RE_readPiece 31 = .ok (.istore_n 2, 1) := by decide +kernel
theorem dd_RE_readPiece_32 : decode bb_RE_readPiece 32 = .ok (.aload_n 0, 1) := by decide +kernel
theorem dd_RE_readPiece_33 : decode bb_RE_readPiece 33 = .ok (.invokevirtual 93, 3) := by decide +kernel
theorem dd_RE_readPiece_36 : decode bb_RE_readPiece 36 = .ok (.aload_n 0, 1) := by decide +kernel
theorem dd_RE_readPiece_37 : decode bb_RE_readPiece 37 = .ok (.getfield 15, 3) := by decide +kernel
theorem dd_RE_readPiece_40 : decode bb_RE_readPiece 40 = .ok (.iconst (-1), 1) := by decide +kernel
theorem dd_RE_readPiece_41 : decode bb_RE_readPiece 41 = .ok (.if_icmp .ne 17, 3) := by decide +kernel
theorem dd_RE_readPiece_44 : decode bb_RE_readPiece 44 = .ok (.aload_n 0, 1) := by decide +kernel
theorem dd_RE_readPiece_45 : decode bb_RE_readPiece 45 = .ok (.getfield 22, 3) := by decide +kernel
theorem dd_RE_readPiece_48 : decode bb_RE_readPiece 48 = .ok (.getfield 105, 3) := by decide +kernel
theorem dd_RE_readPiece_51 : decode bb_RE_readPiece 51 = .ok (.iload_n 1, 1) := by decide +kernel
theorem dd_RE_readPiece_52 : decode bb_RE_readPiece 52 = .ok (.iload_n 2, 1) := by decide +kernel
theorem dd_RE_readPiece_53 : decode bb_RE_readPiece 53 = .ok (.iconst 0, 1) := by decide +kernel
theorem dd_RE_readPiece_54 : decode bb_RE_readPiece 54 = .ok (.invokevirtual 96, 3) := by decide +kernel
theorem dd_RE_readPiece_57 : decode bb_RE_readPiece 57 = .ok (.pop, 1) := by decide +kernel
theorem dd_RE_readPiece_58 : decode bb_RE_readPiece 58 = .ok (.return_, 1) := by decide +kernel
def ff_RE_readPiece  (x : St) (v0 : Nat) : Option (Unit × St) := bnd (ff_RE_wantRoom x v0 (rf (rf v0 4) 2)) (fun _ x_2 => bnd (ff_SH_allJoints x_2 (rf v0 4)) (fun r_4 x_5 => bnd (ff_RE_readNumber x_5 v0 1 r_4) (fun r_7 x_8 => bnd (ff_RE_readNumber x_8 v0 0 99) (fun r_10 x_11 => bnd (ff_RE_readStop x_11 v0) (fun _ x_14 => (if (gi x_14 v0 3) = (-1) then bnd (ff_LE_add x_14 (rf (rf v0 4) 2) r_7 r_10 0) (fun r_17 x_18 => some ((), x_18)) else some ((), x_14)))))))
set_option maxHeartbeats 4000000 in
set_option maxRecDepth 100000 in
theorem ww_RE_readPiece {p : Program} {l : Launch} {e : Env} {s : State} {m : MethodId} {args : Array Value} {below : List Frame} {meth : Method} {c : Code} {E : Ev} {A : Nat → Prop} {ad : Nat → Nat} {r : Unit} {x' : St} (C0 : Cx E A RRE bb_RE_readPiece 3 (none) p s m args meth c) (hap : Ap ad ixC A)  {x : St} {v0 : Nat} (ho_v0 : isO ixC v0 3) (hf : ff_RE_readPiece x v0 = some (r, x')) {H : Heap} {locs : List Loc} {ls : Array Slot} (hP : Wd E ad ixC x H) (hS : va_S A s.heap H locs) (hl : lv_has ls 3 [(0, .ref (ad v0))]) : W p l e rm_RE_readPiece s m args below meth c H locs 0 0 (MQ below (QX E ad ixC A (none) x') args s 0 0 A) (F0 m 0 ls []) := by
  obtain ⟨hx, hb, hml, hr, hown, hts, hlk, hK⟩ := id C0
  have hf : bnd (ff_RE_wantRoom x v0 (rf (rf v0 4) 2)) (fun _ x_2 => bnd (ff_SH_allJoints x_2 (rf v0 4)) (fun r_4 x_5 => bnd (ff_RE_readNumber x_5 v0 1 r_4) (fun r_7 x_8 => bnd (ff_RE_readNumber x_8 v0 0 99) (fun r_10 x_11 => bnd (ff_RE_readStop x_11 v0) (fun _ x_14 => (if (gi x_14 v0 3) = (-1) then bnd (ff_LE_add x_14 (rf (rf v0 4) 2) r_7 r_10 0) (fun r_17 x_18 => some ((), x_18)) else some ((), x_14))))))) = some (r, x') := hf
  refine lv_aload_n hx hb dd_RE_readPiece_0 rfl (lv_at hl 0 rfl) ?_
  refine lv_aload_n hx hb dd_RE_readPiece_1 rfl (lv_at hl 0 rfl) ?_
  refine gf_RE_22 C0 hP ho_v0 dd_RE_readPiece_2 ?_
  refine gf_RE_105 C0 hP (tp_3_4 ho_v0) dd_RE_readPiece_5 ?_
  obtain ⟨_, x_2, c_3, hf⟩ := of_bnd hf
  refine cl_RE_85 C0 hap ho_v0 (tp_4_2 (tp_3_4 ho_v0)) c_3 hP hS ⟨Nat.le_of_ble_eq_true rfl, Nat.le_of_ble_eq_true rfl⟩ hl.1 (Nat.le_of_ble_eq_true rfl) dd_RE_readPiece_8 ⟨Nat.le_refl _, Nat.le_refl _⟩ (fun H locs hP hS => ?_)
  refine lv_aload_n hx hb dd_RE_readPiece_11 rfl (lv_at hl 0 rfl) ?_
  refine lv_iconst (v := 1) hx hb dd_RE_readPiece_12 (by decide) ?_
  refine lv_aload_n hx hb dd_RE_readPiece_13 rfl (lv_at hl 0 rfl) ?_
  refine gf_RE_22 C0 hP ho_v0 dd_RE_readPiece_14 ?_
  obtain ⟨r_4, x_5, c_6, hf⟩ := of_bnd hf
  refine cl_RE_108 C0 hap (tp_3_4 ho_v0) c_6 hP hS ⟨Nat.le_of_ble_eq_true rfl, Nat.le_of_ble_eq_true rfl⟩ hl.1 (Nat.le_of_ble_eq_true rfl) dd_RE_readPiece_17 ⟨Nat.le_refl _, Nat.le_refl _⟩ (fun H locs hP hS => ?_)
  obtain ⟨r_7, x_8, c_9, hf⟩ := of_bnd hf
  refine cl_RE_89 C0 hap ho_v0 c_9 hP hS ⟨Nat.le_of_ble_eq_true rfl, Nat.le_of_ble_eq_true rfl⟩ hl.1 (Nat.le_of_ble_eq_true rfl) dd_RE_readPiece_20 ⟨Nat.le_refl _, Nat.le_refl _⟩ (fun H locs hP hS => ?_)
  refine lv_istore_n (lv' := [(1, .int r_7), (0, .ref (ad v0))]) hx hb dd_RE_readPiece_23 rfl hl (by decide) rfl (fun ls hl => ?_)
  refine lv_aload_n hx hb dd_RE_readPiece_24 rfl (lv_at hl 1 rfl) ?_
  refine lv_iconst (v := 0) hx hb dd_RE_readPiece_25 (by decide) ?_
  refine lv_bipush (v := 99) hx hb dd_RE_readPiece_26 (by decide) ?_
  obtain ⟨r_10, x_11, c_12, hf⟩ := of_bnd hf
  refine cl_RE_89 C0 hap ho_v0 c_12 hP hS ⟨Nat.le_of_ble_eq_true rfl, Nat.le_of_ble_eq_true rfl⟩ hl.1 (Nat.le_of_ble_eq_true rfl) dd_RE_readPiece_28 ⟨Nat.le_refl _, Nat.le_refl _⟩ (fun H locs hP hS => ?_)
  refine lv_istore_n (lv' := [(2, .int r_10), (1, .int r_7), (0, .ref (ad v0))]) hx hb dd_RE_readPiece_31 rfl hl (by decide) rfl (fun ls hl => ?_)
  refine lv_aload_n hx hb dd_RE_readPiece_32 rfl (lv_at hl 2 rfl) ?_
  obtain ⟨_, x_14, c_15, hf⟩ := of_bnd hf
  refine cl_RE_93 C0 hap ho_v0 c_15 hP hS ⟨Nat.le_of_ble_eq_true rfl, Nat.le_of_ble_eq_true rfl⟩ hl.1 (Nat.le_of_ble_eq_true rfl) dd_RE_readPiece_33 ⟨Nat.le_refl _, Nat.le_refl _⟩ (fun H locs hP hS => ?_)
  refine lv_aload_n hx hb dd_RE_readPiece_36 rfl (lv_at hl 2 rfl) ?_
  refine gf_RE_15 C0 hP ho_v0 dd_RE_readPiece_37 ?_
  refine lv_iconst (v := -1) hx hb dd_RE_readPiece_40 (by decide) ?_
  refine lv_icmp_ne (tgt := 58) hx hb dd_RE_readPiece_41 (by decide) (fun h_16 => ?_) (fun h_16 => ?_)
  · have hf := (if_neg h_16).symm.trans hf
    exact rrV C0 hP hS dd_RE_readPiece_58 hf
  · have hf := (if_pos h_16).symm.trans hf
    refine lv_aload_n hx hb dd_RE_readPiece_44 rfl (lv_at hl 2 rfl) ?_
    refine gf_RE_22 C0 hP ho_v0 dd_RE_readPiece_45 ?_
    refine gf_RE_105 C0 hP (tp_3_4 ho_v0) dd_RE_readPiece_48 ?_
    refine lv_iload_n hx hb dd_RE_readPiece_51 rfl (lv_at hl 1 rfl) ?_
    refine lv_iload_n hx hb dd_RE_readPiece_52 rfl (lv_at hl 0 rfl) ?_
    refine lv_iconst (v := 0) hx hb dd_RE_readPiece_53 (by decide) ?_
    obtain ⟨r_17, x_18, c_19, hf⟩ := of_bnd hf
    refine cl_RE_96 C0 hap (tp_4_2 (tp_3_4 ho_v0)) c_19 hP hS ⟨Nat.le_of_ble_eq_true rfl, Nat.le_of_ble_eq_true rfl⟩ hl.1 (Nat.le_of_ble_eq_true rfl) dd_RE_readPiece_54 ⟨Nat.le_refl _, Nat.le_refl _⟩ (fun H locs hP hS => ?_)
    refine lv_pop hx hb dd_RE_readPiece_57 rfl ?_
    exact rrV C0 hP hS dd_RE_readPiece_58 hf
theorem cc_RE_readPiece {l : Launch} {E : Ev} {A : Nat → Prop} {ad : Nat → Nat} (hap : Ap ad ixC A) {x x' : St} {v0 : Nat} {r : Unit} (ho_v0 : isO ixC v0 3) (hf : ff_RE_readPiece x v0 = some (r, x')) : Met l yy_RE_readPiece (Cond.code yy_RE_readPiece bb_RE_readPiece 3 (none) :: gtb) rm_RE_readPiece (va_Pc [.ref (ad v0)] (PB E A ad ixC x)) (QX E ad ixC A (none) x') 0 0 A := by
  exact enter (by decide) (Nat.le_of_ble_eq_true rfl) (fun p e s m below meth c ls C0 hP hS hl => ww_RE_readPiece C0 hap ho_v0 hf hP hS hl)
abbrev rm_RE_readFeast : Room := { frames := 4, cells := 0, slots := 0, locals := 82 }
theorem dd_RE_readFeast_0 : decode bb_RE_readFeast 0 = .ok (.aload_n 0, 1) := by decide +kernel
theorem dd_RE_readFeast_1 : decode bb_RE_readFeast 1 = .ok (.aload_n 0, 1) := by decide +kernel
theorem dd_RE_readFeast_2 : decode bb_RE_readFeast 2 = .ok (.getfield 22, 3) := by decide +kernel
theorem dd_RE_readFeast_5 : decode bb_RE_readFeast 5 = .ok (.getfield 112, 3) := by decide +kernel
theorem dd_RE_readFeast_8 : decode bb_RE_readFeast 8 = .ok (.invokevirtual 85, 3) := by decide +kernel
theorem dd_RE_readFeast_11 : decode bb_RE_readFeast 11 = .ok (.aload_n 0, 1) := by decide +kernel
theorem dd_RE_readFeast_12 : decode bb_RE_readFeast 12 = .ok (.iconst 1, 1) := by decide +kernel
theorem dd_RE_readFeast_13 : decode bb_RE_readFeast 13 = .ok (.bipush 99, 2) := by decide +kernel
theorem dd_RE_readFeast_15 : decode bb_RE_readFeast 15 = .ok (.invokevirtual 89, 3) := by decide +kernel
theorem dd_RE_readFeast_18 : decode bb_RE_readFeast 18 = .ok (.istore_n 2, 1) := by decide +kernel
theorem dd_RE_readFeast_19 : decode bb_RE_readFeast 19 = .ok (.aload_n 0, 1) := by decide +kernel
theorem dd_RE_readFeast_20 : decode bb_RE_readFeast 20 = .ok (.iconst 0, 1) := by decide +kernel
theorem dd_RE_readFeast_21 : decode bb_RE_readFeast 21 = .ok (.aload_n 0, 1) := by decide +kernel
theorem dd_RE_readFeast_22 : decode bb_RE_readFeast 22 = .ok (.getfield 22, 3) := by decide +kernel
theorem dd_RE_readFeast_25 : decode bb_RE_readFeast 25 = .ok (.getfield 81, 3) := by decide +kernel
theorem dd_RE_readFeast_28 : decode bb_RE_readFeast 28 = .ok (.getfield 115, 3) := by decide +kernel
theorem dd_RE_readFeast_31 : decode bb_RE_readFeast 31 = .ok (.iconst 1, 1) := by decide +kernel
theorem dd_RE_readFeast_32 : decode bb_RE_readFeast 32 = .ok (.isub, 1) := by decide +kernel
theorem dd_RE_readFeast_33 : decode bb_RE_readFeast 33 = .ok (.invokevirtual 89, 3) := by decide +kernel
theorem dd_RE_readFeast_36 : decode bb_RE_readFeast 36 = .ok (.istore_n 3, 1) := by decide +kernel
theorem dd_RE_readFeast_37 : decode bb_RE_readFeast 37 = .ok (.aload_n 0, 1) := by decide +kernel
theorem dd_RE_readFeast_38 : decode bb_RE_readFeast 38 = .ok (.invokevirtual 93, 3) := by decide +kernel
theorem dd_RE_readFeast_41 : decode bb_RE_readFeast 41 = .ok (.aload_n 0, 1) := by decide +kernel
theorem dd_RE_readFeast_42 : decode bb_RE_readFeast 42 = .ok (.getfield 15, 3) := by decide +kernel
theorem dd_RE_readFeast_45 : decode bb_RE_readFeast 45 = .ok (.iconst (-1), 1) := by decide +kernel
theorem dd_RE_readFeast_46 : decode bb_RE_readFeast 46 = .ok (.if_icmp .ne 17, 3) := by decide +kernel
theorem dd_RE_readFeast_49 : decode bb_RE_readFeast 49 = .ok (.aload_n 0, 1) := by decide +kernel
theorem dd_RE_readFeast_50 : decode bb_RE_readFeast 50 = .ok (.getfield 22, 3) := by decide +kernel
theorem dd_RE_readFeast_53 : decode bb_RE_readFeast 53 = .ok (.getfield 112, 3) := by decide +kernel
theorem dd_RE_readFeast_56 : decode bb_RE_readFeast 56 = .ok (.iload_n 1, 1) := by decide +kernel
theorem dd_RE_readFeast_57 : decode bb_RE_readFeast 57 = .ok (.iload_n 2, 1) := by decide +kernel
theorem dd_RE_readFeast_58 : decode bb_RE_readFeast 58 = .ok (.iload_n 3, 1) := by decide +kernel
theorem dd_RE_readFeast_59 : decode bb_RE_readFeast 59 = .ok (.invokevirtual 96, 3) := by decide +kernel
theorem dd_RE_readFeast_62 : decode bb_RE_readFeast 62 = .ok (.pop, 1) := by decide +kernel
theorem dd_RE_readFeast_63 : decode bb_RE_readFeast 63 = .ok (.return_, 1) := by decide +kernel
def ff_RE_readFeast  (x : St) (v0 : Nat) (v1 : Int32) : Option (Unit × St) := bnd (ff_RE_wantRoom x v0 (rf (rf v0 4) 3)) (fun _ x_2 => bnd (ff_RE_readNumber x_2 v0 1 99) (fun r_4 x_5 => bnd (ff_RE_readNumber x_5 v0 0 ((gi x_5 (rf (rf v0 4) 0) 3) - 1)) (fun r_7 x_8 => bnd (ff_RE_readStop x_8 v0) (fun _ x_11 => (if (gi x_11 v0 3) = (-1) then bnd (ff_LE_add x_11 (rf (rf v0 4) 3) v1 r_4 r_7) (fun r_14 x_15 => some ((), x_15)) else some ((), x_11))))))
set_option maxHeartbeats 4000000 in
set_option maxRecDepth 100000 in
theorem ww_RE_readFeast {p : Program} {l : Launch} {e : Env} {s : State} {m : MethodId} {args : Array Value} {below : List Frame} {meth : Method} {c : Code} {E : Ev} {A : Nat → Prop} {ad : Nat → Nat} {r : Unit} {x' : St} (C0 : Cx E A RRE bb_RE_readFeast 4 (none) p s m args meth c) (hap : Ap ad ixC A)  {x : St} {v0 : Nat} {v1 : Int32} (ho_v0 : isO ixC v0 3) (hf : ff_RE_readFeast x v0 v1 = some (r, x')) {H : Heap} {locs : List Loc} {ls : Array Slot} (hP : Wd E ad ixC x H) (hS : va_S A s.heap H locs) (hl : lv_has ls 4 [(0, .ref (ad v0)), (1, .int v1)]) : W p l e rm_RE_readFeast s m args below meth c H locs 0 0 (MQ below (QX E ad ixC A (none) x') args s 0 0 A) (F0 m 0 ls []) := by
  obtain ⟨hx, hb, hml, hr, hown, hts, hlk, hK⟩ := id C0
  have hf : bnd (ff_RE_wantRoom x v0 (rf (rf v0 4) 3)) (fun _ x_2 => bnd (ff_RE_readNumber x_2 v0 1 99) (fun r_4 x_5 => bnd (ff_RE_readNumber x_5 v0 0 ((gi x_5 (rf (rf v0 4) 0) 3) - 1)) (fun r_7 x_8 => bnd (ff_RE_readStop x_8 v0) (fun _ x_11 => (if (gi x_11 v0 3) = (-1) then bnd (ff_LE_add x_11 (rf (rf v0 4) 3) v1 r_4 r_7) (fun r_14 x_15 => some ((), x_15)) else some ((), x_11)))))) = some (r, x') := hf
  refine lv_aload_n hx hb dd_RE_readFeast_0 rfl (lv_at hl 0 rfl) ?_
  refine lv_aload_n hx hb dd_RE_readFeast_1 rfl (lv_at hl 0 rfl) ?_
  refine gf_RE_22 C0 hP ho_v0 dd_RE_readFeast_2 ?_
  refine gf_RE_112 C0 hP (tp_3_4 ho_v0) dd_RE_readFeast_5 ?_
  obtain ⟨_, x_2, c_3, hf⟩ := of_bnd hf
  refine cl_RE_85 C0 hap ho_v0 (tp_4_3 (tp_3_4 ho_v0)) c_3 hP hS ⟨Nat.le_of_ble_eq_true rfl, Nat.le_of_ble_eq_true rfl⟩ hl.1 (Nat.le_of_ble_eq_true rfl) dd_RE_readFeast_8 ⟨Nat.le_refl _, Nat.le_refl _⟩ (fun H locs hP hS => ?_)
  refine lv_aload_n hx hb dd_RE_readFeast_11 rfl (lv_at hl 0 rfl) ?_
  refine lv_iconst (v := 1) hx hb dd_RE_readFeast_12 (by decide) ?_
  refine lv_bipush (v := 99) hx hb dd_RE_readFeast_13 (by decide) ?_
  obtain ⟨r_4, x_5, c_6, hf⟩ := of_bnd hf
  refine cl_RE_89 C0 hap ho_v0 c_6 hP hS ⟨Nat.le_of_ble_eq_true rfl, Nat.le_of_ble_eq_true rfl⟩ hl.1 (Nat.le_of_ble_eq_true rfl) dd_RE_readFeast_15 ⟨Nat.le_refl _, Nat.le_refl _⟩ (fun H locs hP hS => ?_)
  refine lv_istore_n (lv' := [(2, .int r_4), (0, .ref (ad v0)), (1, .int v1)]) hx hb dd_RE_readFeast_18 rfl hl (by decide) rfl (fun ls hl => ?_)
  refine lv_aload_n hx hb dd_RE_readFeast_19 rfl (lv_at hl 1 rfl) ?_
  refine lv_iconst (v := 0) hx hb dd_RE_readFeast_20 (by decide) ?_
  refine lv_aload_n hx hb dd_RE_readFeast_21 rfl (lv_at hl 1 rfl) ?_
  refine gf_RE_22 C0 hP ho_v0 dd_RE_readFeast_22 ?_
  refine gf_RE_81 C0 hP (tp_3_4 ho_v0) dd_RE_readFeast_25 ?_
  refine gf_RE_115 C0 hP (tp_4_0 (tp_3_4 ho_v0)) dd_RE_readFeast_28 ?_
  refine lv_iconst (v := 1) hx hb dd_RE_readFeast_31 (by decide) ?_
  refine lv_isub hx hb dd_RE_readFeast_32 ?_
  obtain ⟨r_7, x_8, c_9, hf⟩ := of_bnd hf
  refine cl_RE_89 C0 hap ho_v0 c_9 hP hS ⟨Nat.le_of_ble_eq_true rfl, Nat.le_of_ble_eq_true rfl⟩ hl.1 (Nat.le_of_ble_eq_true rfl) dd_RE_readFeast_33 ⟨Nat.le_refl _, Nat.le_refl _⟩ (fun H locs hP hS => ?_)
  refine lv_istore_n (lv' := [(3, .int r_7), (2, .int r_4), (0, .ref (ad v0)), (1, .int v1)]) hx hb dd_RE_readFeast_36 rfl hl (by decide) rfl (fun ls hl => ?_)
  refine lv_aload_n hx hb dd_RE_readFeast_37 rfl (lv_at hl 2 rfl) ?_
  obtain ⟨_, x_11, c_12, hf⟩ := of_bnd hf
  refine cl_RE_93 C0 hap ho_v0 c_12 hP hS ⟨Nat.le_of_ble_eq_true rfl, Nat.le_of_ble_eq_true rfl⟩ hl.1 (Nat.le_of_ble_eq_true rfl) dd_RE_readFeast_38 ⟨Nat.le_refl _, Nat.le_refl _⟩ (fun H locs hP hS => ?_)
  refine lv_aload_n hx hb dd_RE_readFeast_41 rfl (lv_at hl 2 rfl) ?_
  refine gf_RE_15 C0 hP ho_v0 dd_RE_readFeast_42 ?_
  refine lv_iconst (v := -1) hx hb dd_RE_readFeast_45 (by decide) ?_
  refine lv_icmp_ne (tgt := 63) hx hb dd_RE_readFeast_46 (by decide) (fun h_13 => ?_) (fun h_13 => ?_)
  · have hf := (if_neg h_13).symm.trans hf
    exact rrV C0 hP hS dd_RE_readFeast_63 hf
  · have hf := (if_pos h_13).symm.trans hf
    refine lv_aload_n hx hb dd_RE_readFeast_49 rfl (lv_at hl 2 rfl) ?_
    refine gf_RE_22 C0 hP ho_v0 dd_RE_readFeast_50 ?_
    refine gf_RE_112 C0 hP (tp_3_4 ho_v0) dd_RE_readFeast_53 ?_
    refine lv_iload_n hx hb dd_RE_readFeast_56 rfl (lv_at hl 3 rfl) ?_
    refine lv_iload_n hx hb dd_RE_readFeast_57 rfl (lv_at hl 1 rfl) ?_
    refine lv_iload_n hx hb dd_RE_readFeast_58 rfl (lv_at hl 0 rfl) ?_
    obtain ⟨r_14, x_15, c_16, hf⟩ := of_bnd hf
    refine cl_RE_96 C0 hap (tp_4_3 (tp_3_4 ho_v0)) c_16 hP hS ⟨Nat.le_of_ble_eq_true rfl, Nat.le_of_ble_eq_true rfl⟩ hl.1 (Nat.le_of_ble_eq_true rfl) dd_RE_readFeast_59 ⟨Nat.le_refl _, Nat.le_refl _⟩ (fun H locs hP hS => ?_)
    refine lv_pop hx hb dd_RE_readFeast_62 rfl ?_
    exact rrV C0 hP hS dd_RE_readFeast_63 hf
theorem cc_RE_readFeast {l : Launch} {E : Ev} {A : Nat → Prop} {ad : Nat → Nat} (hap : Ap ad ixC A) {x x' : St} {v0 : Nat} {v1 : Int32} {r : Unit} (ho_v0 : isO ixC v0 3) (hf : ff_RE_readFeast x v0 v1 = some (r, x')) : Met l yy_RE_readFeast (Cond.code yy_RE_readFeast bb_RE_readFeast 4 (none) :: gtb) rm_RE_readFeast (va_Pc [.ref (ad v0), .int v1] (PB E A ad ixC x)) (QX E ad ixC A (none) x') 0 0 A := by
  exact enter (by decide) (Nat.le_of_ble_eq_true rfl) (fun p e s m below meth c ls C0 hP hS hl => ww_RE_readFeast C0 hap ho_v0 hf hP hS hl)
abbrev rm_RE_readDay : Room := { frames := 4, cells := 0, slots := 0, locals := 82 }
theorem dd_RE_readDay_0 : decode bb_RE_readDay 0 = .ok (.aload_n 0, 1) := by decide +kernel
theorem dd_RE_readDay_1 : decode bb_RE_readDay 1 = .ok (.aload_n 0, 1) := by decide +kernel
theorem dd_RE_readDay_2 : decode bb_RE_readDay 2 = .ok (.getfield 22, 3) := by decide +kernel
theorem dd_RE_readDay_5 : decode bb_RE_readDay 5 = .ok (.getfield 118, 3) := by decide +kernel
theorem dd_RE_readDay_8 : decode bb_RE_readDay 8 = .ok (.bipush 99, 2) := by decide +kernel
theorem dd_RE_readDay_10 : decode bb_RE_readDay 10 = .ok (.invokevirtual 89, 3) := by decide +kernel
theorem dd_RE_readDay_13 : decode bb_RE_readDay 13 = .ok (.istore_n 1, 1) := by decide +kernel
theorem dd_RE_readDay_14 : decode bb_RE_readDay 14 = .ok (.aload_n 0, 1) := by decide +kernel
theorem dd_RE_readDay_15 : decode bb_RE_readDay 15 = .ok (.invokevirtual 93, 3) := by decide +kernel
theorem dd_RE_readDay_18 : decode bb_RE_readDay 18 = .ok (.aload_n 0, 1) := by decide +kernel
theorem dd_RE_readDay_19 : decode bb_RE_readDay 19 = .ok (.getfield 15, 3) := by decide +kernel
theorem dd_RE_readDay_22 : decode bb_RE_readDay 22 = .ok (.iconst (-1), 1) := by decide +kernel
theorem dd_RE_readDay_23 : decode bb_RE_readDay 23 = .ok (.if_icmp .ne 11, 3) := by decide +kernel
theorem dd_RE_readDay_26 : decode bb_RE_readDay 26 = .ok (.aload_n 0, 1) := by decide +kernel
theorem dd_RE_readDay_27 : decode bb_RE_readDay 27 = .ok (.getfield 22, 3) := by decide +kernel
theorem dd_RE_readDay_30 : decode bb_RE_readDay 30 = .ok (.iload_n 1, 1) := by decide +kernel
theorem dd_RE_readDay_31 : decode bb_RE_readDay 31 = .ok (.putfield 118, 3) := by decide +kernel
theorem dd_RE_readDay_34 : decode bb_RE_readDay 34 = .ok (.return_, 1) := by decide +kernel
def ff_RE_readDay  (x : St) (v0 : Nat) : Option (Unit × St) := bnd (ff_RE_readNumber x v0 (gi x (rf v0 4) 9) 99) (fun r_1 x_2 => bnd (ff_RE_readStop x_2 v0) (fun _ x_5 => (if (gi x_5 v0 3) = (-1) then st (si x_5 (rf v0 4) 9 r_1) (fun x_8 => some ((), x_8)) else some ((), x_5))))
set_option maxHeartbeats 4000000 in
set_option maxRecDepth 100000 in
theorem ww_RE_readDay {p : Program} {l : Launch} {e : Env} {s : State} {m : MethodId} {args : Array Value} {below : List Frame} {meth : Method} {c : Code} {E : Ev} {A : Nat → Prop} {ad : Nat → Nat} {r : Unit} {x' : St} (C0 : Cx E A RRE bb_RE_readDay 2 (none) p s m args meth c) (hap : Ap ad ixC A)  {x : St} {v0 : Nat} (ho_v0 : isO ixC v0 3) (hf : ff_RE_readDay x v0 = some (r, x')) {H : Heap} {locs : List Loc} {ls : Array Slot} (hP : Wd E ad ixC x H) (hS : va_S A s.heap H locs) (hl : lv_has ls 2 [(0, .ref (ad v0))]) : W p l e rm_RE_readDay s m args below meth c H locs 0 0 (MQ below (QX E ad ixC A (none) x') args s 0 0 A) (F0 m 0 ls []) := by
  obtain ⟨hx, hb, hml, hr, hown, hts, hlk, hK⟩ := id C0
  have hf : bnd (ff_RE_readNumber x v0 (gi x (rf v0 4) 9) 99) (fun r_1 x_2 => bnd (ff_RE_readStop x_2 v0) (fun _ x_5 => (if (gi x_5 v0 3) = (-1) then st (si x_5 (rf v0 4) 9 r_1) (fun x_8 => some ((), x_8)) else some ((), x_5)))) = some (r, x') := hf
  refine lv_aload_n hx hb dd_RE_readDay_0 rfl (lv_at hl 0 rfl) ?_
  refine lv_aload_n hx hb dd_RE_readDay_1 rfl (lv_at hl 0 rfl) ?_
  refine gf_RE_22 C0 hP ho_v0 dd_RE_readDay_2 ?_
  refine gf_RE_118 C0 hP (tp_3_4 ho_v0) dd_RE_readDay_5 ?_
  refine lv_bipush (v := 99) hx hb dd_RE_readDay_8 (by decide) ?_
  obtain ⟨r_1, x_2, c_3, hf⟩ := of_bnd hf
  refine cl_RE_89 C0 hap ho_v0 c_3 hP hS ⟨Nat.le_of_ble_eq_true rfl, Nat.le_of_ble_eq_true rfl⟩ hl.1 (Nat.le_of_ble_eq_true rfl) dd_RE_readDay_10 ⟨Nat.le_refl _, Nat.le_refl _⟩ (fun H locs hP hS => ?_)
  refine lv_istore_n (lv' := [(1, .int r_1), (0, .ref (ad v0))]) hx hb dd_RE_readDay_13 rfl hl (by decide) rfl (fun ls hl => ?_)
  refine lv_aload_n hx hb dd_RE_readDay_14 rfl (lv_at hl 1 rfl) ?_
  obtain ⟨_, x_5, c_6, hf⟩ := of_bnd hf
  refine cl_RE_93 C0 hap ho_v0 c_6 hP hS ⟨Nat.le_of_ble_eq_true rfl, Nat.le_of_ble_eq_true rfl⟩ hl.1 (Nat.le_of_ble_eq_true rfl) dd_RE_readDay_15 ⟨Nat.le_refl _, Nat.le_refl _⟩ (fun H locs hP hS => ?_)
  refine lv_aload_n hx hb dd_RE_readDay_18 rfl (lv_at hl 1 rfl) ?_
  refine gf_RE_15 C0 hP ho_v0 dd_RE_readDay_19 ?_
  refine lv_iconst (v := -1) hx hb dd_RE_readDay_22 (by decide) ?_
  refine lv_icmp_ne (tgt := 34) hx hb dd_RE_readDay_23 (by decide) (fun h_7 => ?_) (fun h_7 => ?_)
  · have hf := (if_neg h_7).symm.trans hf
    exact rrV C0 hP hS dd_RE_readDay_34 hf
  · have hf := (if_pos h_7).symm.trans hf
    refine lv_aload_n hx hb dd_RE_readDay_26 rfl (lv_at hl 1 rfl) ?_
    refine gf_RE_22 C0 hP ho_v0 dd_RE_readDay_27 ?_
    refine lv_iload_n hx hb dd_RE_readDay_30 rfl (lv_at hl 0 rfl) ?_
    obtain ⟨x_8, hx_8, hf⟩ := of_st hf
    refine pf_RE_118 C0 hap hP hS (tp_3_4 ho_v0) hx_8 dd_RE_readDay_31 (fun H locs hP hS => ?_)
    exact rrV C0 hP hS dd_RE_readDay_34 hf
theorem cc_RE_readDay {l : Launch} {E : Ev} {A : Nat → Prop} {ad : Nat → Nat} (hap : Ap ad ixC A) {x x' : St} {v0 : Nat} {r : Unit} (ho_v0 : isO ixC v0 3) (hf : ff_RE_readDay x v0 = some (r, x')) : Met l yy_RE_readDay (Cond.code yy_RE_readDay bb_RE_readDay 2 (none) :: gtb) rm_RE_readDay (va_Pc [.ref (ad v0)] (PB E A ad ixC x)) (QX E ad ixC A (none) x') 0 0 A := by
  exact enter (by decide) (Nat.le_of_ble_eq_true rfl) (fun p e s m below meth c ls C0 hP hS hl => ww_RE_readDay C0 hap ho_v0 hf hP hS hl)
theorem cl_RE_130 {p : Program} {l : Launch} {e : Env} {R : Room} {s : State} {m : MethodId} {args : Array Value} {below : List Frame} {meth : Method} {c : Code} {H : Heap} {locs : List Loc} {cells slots : Nat} {Q : State → Prop} {cc : ByteArray} {pc : Nat} {ls : Array Slot} {rest : List Value} {E : Ev} {A : Nat → Prop} {ad : Nat → Nat} {nL : Nat} {rt : Option FieldType} (C0 : Cx E A RRE cc nL rt p s m args meth c) (hap : Ap ad ixC A) {x x' : St} {v0 : Nat} {v1 : Int32} {v2 : Int32} {v3 : Int32} {r : Unit} (ho_v0 : isO ixC v0 4) (hc : ff_SH_boilNow x v0 v1 v2 v3 = some (r, x')) (hP : Wd E ad ixC x H) (hS : va_S A s.heap H locs) (hR : rm_SH_boilNow.frames + 1 ≤ R.frames ∧ 8 + (4 + 11) + rm_SH_boilNow.locals ≤ R.locals) (hls : ls.size = nL) (hroom : (rest.map fun v => v.category).sum ≤ 8) (hdg : decode cc pc = .ok (.invokevirtual 130, 3)) (hf : cells ≤ R.cells ∧ slots ≤ R.slots) (kk : ∀ H1 locs1, Wd E ad ixC x' H1 → va_S A s.heap H1 locs1 → W p l e R s m args below meth c H1 locs1 cells slots Q (F0 m (pc + 3) ls (rest))) : W p l e R s m args below meth c H locs cells slots Q (F0 m pc ls (.int v3 :: .int v2 :: .int v1 :: .ref (ad v0) :: rest)) :=
  rcV (n := 3) C0 (cc_SH_boilNow hap ho_v0 hc) hP hS ho_v0 vcl_4 (by decide) gw_code_SH_boilNow gw_m_RE_130 gw_inst_SH_boilNow gw_sel_SH_boilNow gw_ini_SH rfl rfl (by decide +kernel) rfl hR hls rfl hroom hdg hf (fun H1 locs1 a _ _ b => kk H1 locs1 a b)
abbrev rm_RE_readBoil : Room := { frames := 4, cells := 0, slots := 0, locals := 82 }
theorem dd_RE_readBoil_0 : decode bb_RE_readBoil 0 = .ok (.aload_n 0, 1) := by decide +kernel
theorem dd_RE_readBoil_1 : decode bb_RE_readBoil 1 = .ok (.iconst 0, 1) := by decide +kernel
theorem dd_RE_readBoil_2 : decode bb_RE_readBoil 2 = .ok (.aload_n 0, 1) := by decide +kernel
theorem dd_RE_readBoil_3 : decode bb_RE_readBoil 3 = .ok (.getfield 22, 3) := by decide +kernel
theorem dd_RE_readBoil_6 : decode bb_RE_readBoil 6 = .ok (.getfield 102, 3) := by decide +kernel
theorem dd_RE_readBoil_9 : decode bb_RE_readBoil 9 = .ok (.getfield 115, 3) := by decide +kernel
theorem dd_RE_readBoil_12 : decode bb_RE_readBoil 12 = .ok (.iconst 1, 1) := by decide +kernel
theorem dd_RE_readBoil_13 : decode bb_RE_readBoil 13 = .ok (.isub, 1) := by decide +kernel
theorem dd_RE_readBoil_14 : decode bb_RE_readBoil 14 = .ok (.invokevirtual 89, 3) := by decide +kernel
theorem dd_RE_readBoil_17 : decode bb_RE_readBoil 17 = .ok (.istore_n 1, 1) := by decide +kernel
theorem dd_RE_readBoil_18 : decode bb_RE_readBoil 18 = .ok (.aload_n 0, 1) := by decide +kernel
theorem dd_RE_readBoil_19 : decode bb_RE_readBoil 19 = .ok (.iconst 0, 1) := by decide +kernel
theorem dd_RE_readBoil_20 : decode bb_RE_readBoil 20 = .ok (.aload_n 0, 1) := by decide +kernel
theorem dd_RE_readBoil_21 : decode bb_RE_readBoil 21 = .ok (.getfield 22, 3) := by decide +kernel
theorem dd_RE_readBoil_24 : decode bb_RE_readBoil 24 = .ok (.getfield 81, 3) := by decide +kernel
theorem dd_RE_readBoil_27 : decode bb_RE_readBoil 27 = .ok (.getfield 115, 3) := by decide +kernel
theorem dd_RE_readBoil_30 : decode bb_RE_readBoil 30 = .ok (.iconst 1, 1) := by decide +kernel
theorem dd_RE_readBoil_31 : decode bb_RE_readBoil 31 = .ok (.isub, 1) := by decide +kernel
theorem dd_RE_readBoil_32 : decode bb_RE_readBoil 32 = .ok (.invokevirtual 89, 3) := by decide +kernel
theorem dd_RE_readBoil_35 : decode bb_RE_readBoil 35 = .ok (.istore_n 2, 1) := by decide +kernel
theorem dd_RE_readBoil_36 : decode bb_RE_readBoil 36 = .ok (.iconst (-1), 1) := by decide +kernel
theorem dd_RE_readBoil_37 : decode bb_RE_readBoil 37 = .ok (.istore_n 3, 1) := by decide +kernel
theorem dd_RE_readBoil_38 : decode bb_RE_readBoil 38 = .ok (.aload_n 0, 1) := by decide +kernel
theorem dd_RE_readBoil_39 : decode bb_RE_readBoil 39 = .ok (.getfield 15, 3) := by decide +kernel
theorem dd_RE_readBoil_42 : decode bb_RE_readBoil 42 = .ok (.iconst (-1), 1) := by decide +kernel
theorem dd_RE_readBoil_43 : decode bb_RE_readBoil 43 = .ok (.if_icmp .ne 57, 3) := by decide +kernel
theorem dd_RE_readBoil_46 : decode bb_RE_readBoil 46 = .ok (.aload_n 0, 1) := by decide +kernel
theorem dd_RE_readBoil_47 : decode bb_RE_readBoil 47 = .ok (.invokevirtual 35, 3) := by decide +kernel
theorem dd_RE_readBoil_50 : decode bb_RE_readBoil 50 = .ok (.aload_n 0, 1) := by decide +kernel
theorem dd_RE_readBoil_51 : decode bb_RE_readBoil 51 = .ok (.getfield 38, 3) := by decide +kernel
theorem dd_RE_readBoil_54 : decode bb_RE_readBoil 54 = .ok (.iconst 2, 1) := by decide +kernel
theorem dd_RE_readBoil_55 : decode bb_RE_readBoil 55 = .ok (.if_icmp .ne 41, 3) := by decide +kernel
theorem dd_RE_readBoil_58 : decode bb_RE_readBoil 58 = .ok (.aload_n 0, 1) := by decide +kernel
theorem dd_RE_readBoil_59 : decode bb_RE_readBoil 59 = .ok (.getfield 120, 3) := by decide +kernel
theorem dd_RE_readBoil_62 : decode bb_RE_readBoil 62 = .ok (.istore_n 3, 1) := by decide +kernel
theorem dd_RE_readBoil_63 : decode bb_RE_readBoil 63 = .ok (.aload_n 0, 1) := by decide +kernel
theorem dd_RE_readBoil_64 : decode bb_RE_readBoil 64 = .ok (.iconst 0, 1) := by decide +kernel
theorem dd_RE_readBoil_65 : decode bb_RE_readBoil 65 = .ok (.aload_n 0, 1) := by decide +kernel
theorem dd_RE_readBoil_66 : decode bb_RE_readBoil 66 = .ok (.getfield 22, 3) := by decide +kernel
theorem dd_RE_readBoil_69 : decode bb_RE_readBoil 69 = .ok (.getfield 81, 3) := by decide +kernel
theorem dd_RE_readBoil_72 : decode bb_RE_readBoil 72 = .ok (.getfield 115, 3) := by decide +kernel
theorem dd_RE_readBoil_75 : decode bb_RE_readBoil 75 = .ok (.iconst 1, 1) := by decide +kernel
theorem dd_RE_readBoil_76 : decode bb_RE_readBoil 76 = .ok (.isub, 1) := by decide +kernel
theorem dd_RE_readBoil_77 : decode bb_RE_readBoil 77 = .ok (.invokevirtual 123, 3) := by decide +kernel
theorem dd_RE_readBoil_80 : decode bb_RE_readBoil 80 = .ok (.iload_n 3, 1) := by decide +kernel
theorem dd_RE_readBoil_81 : decode bb_RE_readBoil 81 = .ok (.iload_n 2, 1) := by decide +kernel
theorem dd_RE_readBoil_82 : decode bb_RE_readBoil 82 = .ok (.if_icmp .ne 7, 3) := by decide +kernel
theorem dd_RE_readBoil_85 : decode bb_RE_readBoil 85 = .ok (.aload_n 0, 1) := by decide +kernel
theorem dd_RE_readBoil_86 : decode bb_RE_readBoil 86 = .ok (.invokevirtual 78, 3) := by decide +kernel
theorem dd_RE_readBoil_89 : decode bb_RE_readBoil 89 = .ok (.aload_n 0, 1) := by decide +kernel
theorem dd_RE_readBoil_90 : decode bb_RE_readBoil 90 = .ok (.invokevirtual 93, 3) := by decide +kernel
theorem dd_RE_readBoil_93 : decode bb_RE_readBoil 93 = .ok (.goto 7, 3) := by decide +kernel
theorem dd_RE_readBoil_96 : decode bb_RE_readBoil 96 = .ok (.aload_n 0, 1) := by decide +kernel
theorem dd_RE_readBoil_97 : decode bb_RE_readBoil 97 = .ok (.invokevirtual 127, 3) := by decide +kernel
theorem dd_RE_readBoil_100 : decode bb_RE_readBoil 100 = .ok (.aload_n 0, 1) := by decide +kernel
theorem dd_RE_readBoil_101 : decode bb_RE_readBoil 101 = .ok (.getfield 15, 3) := by decide +kernel
theorem dd_RE_readBoil_104 : decode bb_RE_readBoil 104 = .ok (.iconst (-1), 1) := by decide +kernel
theorem dd_RE_readBoil_105 : decode bb_RE_readBoil 105 = .ok (.if_icmp .ne 13, 3) := by decide +kernel
theorem dd_RE_readBoil_108 : decode bb_RE_readBoil 108 = .ok (.aload_n 0, 1) := by decide +kernel
theorem dd_RE_readBoil_109 : decode bb_RE_readBoil 109 = .ok (.getfield 22, 3) := by decide +kernel
theorem dd_RE_readBoil_112 : decode bb_RE_readBoil 112 = .ok (.iload_n 1, 1) := by decide +kernel
theorem dd_RE_readBoil_113 : decode bb_RE_readBoil 113 = .ok (.iload_n 2, 1) := by decide +kernel
theorem dd_RE_readBoil_114 : decode bb_RE_readBoil 114 = .ok (.iload_n 3, 1) := by decide +kernel
theorem dd_RE_readBoil_115 : decode bb_RE_readBoil 115 = .ok (.invokevirtual 130, 3) := by decide +kernel
theorem dd_RE_readBoil_118 : decode bb_RE_readBoil 118 = .ok (.return_, 1) := by decide +kernel
def ff_RE_readBoil_100  (x : St) (v0 : Nat) (v1 : Int32) (v2 : Int32) (v3 : Int32) : Option (Unit × St) := (if (gi x v0 3) = (-1) then bnd (ff_SH_boilNow x (rf v0 4) v1 v2 v3) (fun _ x_10 => some ((), x_10)) else some ((), x))
def ff_RE_readBoil_89  (x : St) (v0 : Nat) (v1 : Int32) (v2 : Int32) (v3 : Int32) : Option (Unit × St) := bnd (ff_RE_readStop x v0) (fun _ x_24 => ff_RE_readBoil_100 x_24 v0 v1 v2 v3)
def ff_RE_readBoil  (x : St) (v0 : Nat) : Option (Unit × St) := bnd (ff_RE_readNumber x v0 0 ((gi x (rf (rf v0 4) 1) 3) - 1)) (fun r_1 x_2 => bnd (ff_RE_readNumber x_2 v0 0 ((gi x_2 (rf (rf v0 4) 0) 3) - 1)) (fun r_4 x_5 => (if (gi x_5 v0 3) = (-1) then bnd (ff_RE_nextToken x_5 v0) (fun _ x_13 => (if (gi x_13 v0 5) = 2 then bnd (ff_RE_wantNumber x_13 v0 0 ((gi x_13 (rf (rf v0 4) 0) 3) - 1)) (fun _ x_20 => (if (gi x_13 v0 7) = r_4 then bnd (ff_RE_blame x_20 v0) (fun _ x_27 => ff_RE_readBoil_89 x_27 v0 r_1 r_4 (gi x_13 v0 7)) else ff_RE_readBoil_89 x_20 v0 r_1 r_4 (gi x_13 v0 7))) else bnd (ff_RE_wantStop x_13 v0) (fun _ x_17 => ff_RE_readBoil_100 x_17 v0 r_1 r_4 (-1)))) else ff_RE_readBoil_100 x_5 v0 r_1 r_4 (-1))))
set_option maxHeartbeats 4000000 in
set_option maxRecDepth 100000 in
theorem ww_RE_readBoil_100 {p : Program} {l : Launch} {e : Env} {s : State} {m : MethodId} {args : Array Value} {below : List Frame} {meth : Method} {c : Code} {E : Ev} {A : Nat → Prop} {ad : Nat → Nat} {r : Unit} {x' : St} (C0 : Cx E A RRE bb_RE_readBoil 4 (none) p s m args meth c) (hap : Ap ad ixC A)  {x : St} {v0 : Nat} {v1 : Int32} {v2 : Int32} {v3 : Int32} (ho_v0 : isO ixC v0 3) (hf : ff_RE_readBoil_100 x v0 v1 v2 v3 = some (r, x')) {H : Heap} {locs : List Loc} {ls : Array Slot} (hP : Wd E ad ixC x H) (hS : va_S A s.heap H locs) (hl : lv_has ls 4 [(0, .ref (ad v0)), (1, .int v1), (2, .int v2), (3, .int v3)]) : W p l e rm_RE_readBoil s m args below meth c H locs 0 0 (MQ below (QX E ad ixC A (none) x') args s 0 0 A) (F0 m 100 ls []) := by
  obtain ⟨hx, hb, hml, hr, hown, hts, hlk, hK⟩ := id C0
  have hf : (if (gi x v0 3) = (-1) then bnd (ff_SH_boilNow x (rf v0 4) v1 v2 v3) (fun _ x_10 => some ((), x_10)) else some ((), x)) = some (r, x') := hf
  refine lv_aload_n hx hb dd_RE_readBoil_100 rfl (lv_at hl 0 rfl) ?_
  refine gf_RE_15 C0 hP ho_v0 dd_RE_readBoil_101 ?_
  refine lv_iconst (v := -1) hx hb dd_RE_readBoil_104 (by decide) ?_
  refine lv_icmp_ne (tgt := 118) hx hb dd_RE_readBoil_105 (by decide) (fun h_8 => ?_) (fun h_8 => ?_)
  · have hf := (if_neg h_8).symm.trans hf
    exact rrV C0 hP hS dd_RE_readBoil_118 hf
  · have hf := (if_pos h_8).symm.trans hf
    refine lv_aload_n hx hb dd_RE_readBoil_108 rfl (lv_at hl 0 rfl) ?_
    refine gf_RE_22 C0 hP ho_v0 dd_RE_readBoil_109 ?_
    refine lv_iload_n hx hb dd_RE_readBoil_112 rfl (lv_at hl 1 rfl) ?_
    refine lv_iload_n hx hb dd_RE_readBoil_113 rfl (lv_at hl 2 rfl) ?_
    refine lv_iload_n hx hb dd_RE_readBoil_114 rfl (lv_at hl 3 rfl) ?_
    obtain ⟨_, x_10, c_11, hf⟩ := of_bnd hf
    refine cl_RE_130 C0 hap (tp_3_4 ho_v0) c_11 hP hS ⟨Nat.le_of_ble_eq_true rfl, Nat.le_of_ble_eq_true rfl⟩ hl.1 (Nat.le_of_ble_eq_true rfl) dd_RE_readBoil_115 ⟨Nat.le_refl _, Nat.le_refl _⟩ (fun H locs hP hS => ?_)
    exact rrV C0 hP hS dd_RE_readBoil_118 hf
set_option maxHeartbeats 4000000 in
set_option maxRecDepth 100000 in
theorem ww_RE_readBoil_89 {p : Program} {l : Launch} {e : Env} {s : State} {m : MethodId} {args : Array Value} {below : List Frame} {meth : Method} {c : Code} {E : Ev} {A : Nat → Prop} {ad : Nat → Nat} {r : Unit} {x' : St} (C0 : Cx E A RRE bb_RE_readBoil 4 (none) p s m args meth c) (hap : Ap ad ixC A)  {x : St} {v0 : Nat} {v1 : Int32} {v2 : Int32} {v3 : Int32} (ho_v0 : isO ixC v0 3) (hf : ff_RE_readBoil_89 x v0 v1 v2 v3 = some (r, x')) {H : Heap} {locs : List Loc} {ls : Array Slot} (hP : Wd E ad ixC x H) (hS : va_S A s.heap H locs) (hl : lv_has ls 4 [(0, .ref (ad v0)), (1, .int v1), (2, .int v2), (3, .int v3)]) : W p l e rm_RE_readBoil s m args below meth c H locs 0 0 (MQ below (QX E ad ixC A (none) x') args s 0 0 A) (F0 m 89 ls []) := by
  obtain ⟨hx, hb, hml, hr, hown, hts, hlk, hK⟩ := id C0
  have hf : bnd (ff_RE_readStop x v0) (fun _ x_24 => ff_RE_readBoil_100 x_24 v0 v1 v2 v3) = some (r, x') := hf
  refine lv_aload_n hx hb dd_RE_readBoil_89 rfl (lv_at hl 0 rfl) ?_
  obtain ⟨_, x_24, c_25, hf⟩ := of_bnd hf
  refine cl_RE_93 C0 hap ho_v0 c_25 hP hS ⟨Nat.le_of_ble_eq_true rfl, Nat.le_of_ble_eq_true rfl⟩ hl.1 (Nat.le_of_ble_eq_true rfl) dd_RE_readBoil_90 ⟨Nat.le_refl _, Nat.le_refl _⟩ (fun H locs hP hS => ?_)
  refine lv_goto (tgt := 100) hx hb dd_RE_readBoil_93 (by decide) ?_
  exact ww_RE_readBoil_100 C0 hap  ho_v0 hf hP hS (lv_sub hl [0, 1, 2, 3] rfl)
set_option maxHeartbeats 4000000 in
set_option maxRecDepth 100000 in
theorem ww_RE_readBoil {p : Program} {l : Launch} {e : Env} {s : State} {m : MethodId} {args : Array Value} {below : List Frame} {meth : Method} {c : Code} {E : Ev} {A : Nat → Prop} {ad : Nat → Nat} {r : Unit} {x' : St} (C0 : Cx E A RRE bb_RE_readBoil 4 (none) p s m args meth c) (hap : Ap ad ixC A)  {x : St} {v0 : Nat} (ho_v0 : isO ixC v0 3) (hf : ff_RE_readBoil x v0 = some (r, x')) {H : Heap} {locs : List Loc} {ls : Array Slot} (hP : Wd E ad ixC x H) (hS : va_S A s.heap H locs) (hl : lv_has ls 4 [(0, .ref (ad v0))]) : W p l e rm_RE_readBoil s m args below meth c H locs 0 0 (MQ below (QX E ad ixC A (none) x') args s 0 0 A) (F0 m 0 ls []) := by
  obtain ⟨hx, hb, hml, hr, hown, hts, hlk, hK⟩ := id C0
  have hf : bnd (ff_RE_readNumber x v0 0 ((gi x (rf (rf v0 4) 1) 3) - 1)) (fun r_1 x_2 => bnd (ff_RE_readNumber x_2 v0 0 ((gi x_2 (rf (rf v0 4) 0) 3) - 1)) (fun r_4 x_5 => (if (gi x_5 v0 3) = (-1) then bnd (ff_RE_nextToken x_5 v0) (fun _ x_13 => (if (gi x_13 v0 5) = 2 then bnd (ff_RE_wantNumber x_13 v0 0 ((gi x_13 (rf (rf v0 4) 0) 3) - 1)) (fun _ x_20 => (if (gi x_13 v0 7) = r_4 then bnd (ff_RE_blame x_20 v0) (fun _ x_27 => ff_RE_readBoil_89 x_27 v0 r_1 r_4 (gi x_13 v0 7)) else ff_RE_readBoil_89 x_20 v0 r_1 r_4 (gi x_13 v0 7))) else bnd (ff_RE_wantStop x_13 v0) (fun _ x_17 => ff_RE_readBoil_100 x_17 v0 r_1 r_4 (-1)))) else ff_RE_readBoil_100 x_5 v0 r_1 r_4 (-1)))) = some (r, x') := hf
  refine lv_aload_n hx hb dd_RE_readBoil_0 rfl (lv_at hl 0 rfl) ?_
  refine lv_iconst (v := 0) hx hb dd_RE_readBoil_1 (by decide) ?_
  refine lv_aload_n hx hb dd_RE_readBoil_2 rfl (lv_at hl 0 rfl) ?_
  refine gf_RE_22 C0 hP ho_v0 dd_RE_readBoil_3 ?_
  refine gf_RE_102 C0 hP (tp_3_4 ho_v0) dd_RE_readBoil_6 ?_
  refine gf_RE_115 C0 hP (tp_4_1 (tp_3_4 ho_v0)) dd_RE_readBoil_9 ?_
  refine lv_iconst (v := 1) hx hb dd_RE_readBoil_12 (by decide) ?_
  refine lv_isub hx hb dd_RE_readBoil_13 ?_
  obtain ⟨r_1, x_2, c_3, hf⟩ := of_bnd hf
  refine cl_RE_89 C0 hap ho_v0 c_3 hP hS ⟨Nat.le_of_ble_eq_true rfl, Nat.le_of_ble_eq_true rfl⟩ hl.1 (Nat.le_of_ble_eq_true rfl) dd_RE_readBoil_14 ⟨Nat.le_refl _, Nat.le_refl _⟩ (fun H locs hP hS => ?_)
  refine lv_istore_n (lv' := [(1, .int r_1), (0, .ref (ad v0))]) hx hb dd_RE_readBoil_17 rfl hl (by decide) rfl (fun ls hl => ?_)
  refine lv_aload_n hx hb dd_RE_readBoil_18 rfl (lv_at hl 1 rfl) ?_
  refine lv_iconst (v := 0) hx hb dd_RE_readBoil_19 (by decide) ?_
  refine lv_aload_n hx hb dd_RE_readBoil_20 rfl (lv_at hl 1 rfl) ?_
  refine gf_RE_22 C0 hP ho_v0 dd_RE_readBoil_21 ?_
  refine gf_RE_81 C0 hP (tp_3_4 ho_v0) dd_RE_readBoil_24 ?_
  refine gf_RE_115 C0 hP (tp_4_0 (tp_3_4 ho_v0)) dd_RE_readBoil_27 ?_
  refine lv_iconst (v := 1) hx hb dd_RE_readBoil_30 (by decide) ?_
  refine lv_isub hx hb dd_RE_readBoil_31 ?_
  obtain ⟨r_4, x_5, c_6, hf⟩ := of_bnd hf
  refine cl_RE_89 C0 hap ho_v0 c_6 hP hS ⟨Nat.le_of_ble_eq_true rfl, Nat.le_of_ble_eq_true rfl⟩ hl.1 (Nat.le_of_ble_eq_true rfl) dd_RE_readBoil_32 ⟨Nat.le_refl _, Nat.le_refl _⟩ (fun H locs hP hS => ?_)
  refine lv_istore_n (lv' := [(2, .int r_4), (1, .int r_1), (0, .ref (ad v0))]) hx hb dd_RE_readBoil_35 rfl hl (by decide) rfl (fun ls hl => ?_)
  refine lv_iconst (v := -1) hx hb dd_RE_readBoil_36 (by decide) ?_
  refine lv_istore_n (lv' := [(3, .int (-1)), (2, .int r_4), (1, .int r_1), (0, .ref (ad v0))]) hx hb dd_RE_readBoil_37 rfl hl (by decide) rfl (fun ls hl => ?_)
  refine lv_aload_n hx hb dd_RE_readBoil_38 rfl (lv_at hl 3 rfl) ?_
  refine gf_RE_15 C0 hP ho_v0 dd_RE_readBoil_39 ?_
  refine lv_iconst (v := -1) hx hb dd_RE_readBoil_42 (by decide) ?_
  refine lv_icmp_ne (tgt := 100) hx hb dd_RE_readBoil_43 (by decide) (fun h_7 => ?_) (fun h_7 => ?_)
  · have hf := (if_neg h_7).symm.trans hf
    exact ww_RE_readBoil_100 C0 hap  ho_v0 hf hP hS (lv_sub hl [3, 2, 1, 0] rfl)
  · have hf := (if_pos h_7).symm.trans hf
    refine lv_aload_n hx hb dd_RE_readBoil_46 rfl (lv_at hl 3 rfl) ?_
    obtain ⟨_, x_13, c_14, hf⟩ := of_bnd hf
    refine cl_RE_35 C0 hap ho_v0 c_14 hP hS ⟨Nat.le_of_ble_eq_true rfl, Nat.le_of_ble_eq_true rfl⟩ hl.1 (Nat.le_of_ble_eq_true rfl) dd_RE_readBoil_47 ⟨Nat.le_refl _, Nat.le_refl _⟩ (fun H locs hP hS => ?_)
    refine lv_aload_n hx hb dd_RE_readBoil_50 rfl (lv_at hl 3 rfl) ?_
    refine gf_RE_38 C0 hP ho_v0 dd_RE_readBoil_51 ?_
    refine lv_iconst (v := 2) hx hb dd_RE_readBoil_54 (by decide) ?_
    refine lv_icmp_ne (tgt := 96) hx hb dd_RE_readBoil_55 (by decide) (fun h_15 => ?_) (fun h_15 => ?_)
    · have hf := (if_neg h_15).symm.trans hf
      refine lv_aload_n hx hb dd_RE_readBoil_96 rfl (lv_at hl 3 rfl) ?_
      obtain ⟨_, x_17, c_18, hf⟩ := of_bnd hf
      refine cl_RE_127 C0 hap ho_v0 c_18 hP hS ⟨Nat.le_of_ble_eq_true rfl, Nat.le_of_ble_eq_true rfl⟩ hl.1 (Nat.le_of_ble_eq_true rfl) dd_RE_readBoil_97 ⟨Nat.le_refl _, Nat.le_refl _⟩ (fun H locs hP hS => ?_)
      exact ww_RE_readBoil_100 C0 hap  ho_v0 hf hP hS (lv_sub hl [3, 2, 1, 0] rfl)
    · have hf := (if_pos h_15).symm.trans hf
      refine lv_aload_n hx hb dd_RE_readBoil_58 rfl (lv_at hl 3 rfl) ?_
      refine gf_RE_120 C0 hP ho_v0 dd_RE_readBoil_59 ?_
      refine lv_istore_n (lv' := [(3, .int (gi x_13 v0 7)), (2, .int r_4), (1, .int r_1), (0, .ref (ad v0))]) hx hb dd_RE_readBoil_62 rfl hl (by decide) rfl (fun ls hl => ?_)
      refine lv_aload_n hx hb dd_RE_readBoil_63 rfl (lv_at hl 3 rfl) ?_
      refine lv_iconst (v := 0) hx hb dd_RE_readBoil_64 (by decide) ?_
      refine lv_aload_n hx hb dd_RE_readBoil_65 rfl (lv_at hl 3 rfl) ?_
      refine gf_RE_22 C0 hP ho_v0 dd_RE_readBoil_66 ?_
      refine gf_RE_81 C0 hP (tp_3_4 ho_v0) dd_RE_readBoil_69 ?_
      refine gf_RE_115 C0 hP (tp_4_0 (tp_3_4 ho_v0)) dd_RE_readBoil_72 ?_
      refine lv_iconst (v := 1) hx hb dd_RE_readBoil_75 (by decide) ?_
      refine lv_isub hx hb dd_RE_readBoil_76 ?_
      obtain ⟨_, x_20, c_21, hf⟩ := of_bnd hf
      refine cl_RE_123 C0 hap ho_v0 c_21 hP hS ⟨Nat.le_of_ble_eq_true rfl, Nat.le_of_ble_eq_true rfl⟩ hl.1 (Nat.le_of_ble_eq_true rfl) dd_RE_readBoil_77 ⟨Nat.le_refl _, Nat.le_refl _⟩ (fun H locs hP hS => ?_)
      refine lv_iload_n hx hb dd_RE_readBoil_80 rfl (lv_at hl 0 rfl) ?_
      refine lv_iload_n hx hb dd_RE_readBoil_81 rfl (lv_at hl 1 rfl) ?_
      refine lv_icmp_ne (tgt := 89) hx hb dd_RE_readBoil_82 (by decide) (fun h_22 => ?_) (fun h_22 => ?_)
      · have hf := (if_neg h_22).symm.trans hf
        exact ww_RE_readBoil_89 C0 hap  ho_v0 hf hP hS (lv_sub hl [3, 2, 1, 0] rfl)
      · have hf := (if_pos h_22).symm.trans hf
        refine lv_aload_n hx hb dd_RE_readBoil_85 rfl (lv_at hl 3 rfl) ?_
        obtain ⟨_, x_27, c_28, hf⟩ := of_bnd hf
        refine cl_RE_78 C0 hap ho_v0 c_28 hP hS ⟨Nat.le_of_ble_eq_true rfl, Nat.le_of_ble_eq_true rfl⟩ hl.1 (Nat.le_of_ble_eq_true rfl) dd_RE_readBoil_86 ⟨Nat.le_refl _, Nat.le_refl _⟩ (fun H locs hP hS => ?_)
        exact ww_RE_readBoil_89 C0 hap  ho_v0 hf hP hS (lv_sub hl [3, 2, 1, 0] rfl)
theorem cc_RE_readBoil {l : Launch} {E : Ev} {A : Nat → Prop} {ad : Nat → Nat} (hap : Ap ad ixC A) {x x' : St} {v0 : Nat} {r : Unit} (ho_v0 : isO ixC v0 3) (hf : ff_RE_readBoil x v0 = some (r, x')) : Met l yy_RE_readBoil (Cond.code yy_RE_readBoil bb_RE_readBoil 4 (none) :: gtb) rm_RE_readBoil (va_Pc [.ref (ad v0)] (PB E A ad ixC x)) (QX E ad ixC A (none) x') 0 0 A := by
  exact enter (by decide) (Nat.le_of_ble_eq_true rfl) (fun p e s m below meth c ls C0 hP hS hl => ww_RE_readBoil C0 hap ho_v0 hf hP hS hl)
theorem cl_RE_29 {p : Program} {l : Launch} {e : Env} {R : Room} {s : State} {m : MethodId} {args : Array Value} {below : List Frame} {meth : Method} {c : Code} {H : Heap} {locs : List Loc} {cells slots : Nat} {Q : State → Prop} {cc : ByteArray} {pc : Nat} {ls : Array Slot} {rest : List Value} {E : Ev} {A : Nat → Prop} {ad : Nat → Nat} {nL : Nat} {rt : Option FieldType} (C0 : Cx E A RRE cc nL rt p s m args meth c) (hap : Ap ad ixC A) {x x' : St} {v0 : Nat} {r : Unit} (ho_v0 : isO ixC v0 4) (hc : ff_SH_makeEmpty x v0 = some (r, x')) (hP : Wd E ad ixC x H) (hS : va_S A s.heap H locs) (hR : rm_SH_makeEmpty.frames + 1 ≤ R.frames ∧ 8 + (1 + 11) + rm_SH_makeEmpty.locals ≤ R.locals) (hls : ls.size = nL) (hroom : (rest.map fun v => v.category).sum ≤ 8) (hdg : decode cc pc = .ok (.invokevirtual 29, 3)) (hf : cells ≤ R.cells ∧ slots ≤ R.slots) (kk : ∀ H1 locs1, Wd E ad ixC x' H1 → va_S A s.heap H1 locs1 → W p l e R s m args below meth c H1 locs1 cells slots Q (F0 m (pc + 3) ls (rest))) : W p l e R s m args below meth c H locs cells slots Q (F0 m pc ls (.ref (ad v0) :: rest)) :=
  rcV (n := 0) C0 (cc_SH_makeEmpty hap ho_v0 hc) hP hS ho_v0 vcl_4 (by decide) gw_code_SH_makeEmpty gw_m_RE_29 gw_inst_SH_makeEmpty gw_sel_SH_makeEmpty gw_ini_SH rfl rfl (by decide +kernel) rfl hR hls rfl hroom hdg hf (fun H1 locs1 a _ _ b => kk H1 locs1 a b)
theorem cl_RE_43 {p : Program} {l : Launch} {e : Env} {R : Room} {s : State} {m : MethodId} {args : Array Value} {below : List Frame} {meth : Method} {c : Code} {H : Heap} {locs : List Loc} {cells slots : Nat} {Q : State → Prop} {cc : ByteArray} {pc : Nat} {ls : Array Slot} {rest : List Value} {E : Ev} {A : Nat → Prop} {ad : Nat → Nat} {nL : Nat} {rt : Option FieldType} (C0 : Cx E A RRE cc nL rt p s m args meth c) (hap : Ap ad ixC A) {x x' : St} {v0 : Nat} {v1 : Nat} {r : Int32} (ho_v0 : isO ixC v0 3) (ho_v1 : v1 < 7) (hc : ff_RE_isWord x v0 v1 = some (r, x')) (hP : Wd E ad ixC x H) (hS : va_S A s.heap H locs) (hR : rm_RE_isWord.frames + 1 ≤ R.frames ∧ 8 + (3 + 11) + rm_RE_isWord.locals ≤ R.locals) (hls : ls.size = nL) (hroom : (rest.map fun v => v.category).sum ≤ 8) (hdg : decode cc pc = .ok (.invokevirtual 43, 3)) (hf : cells ≤ R.cells ∧ slots ≤ R.slots) (kk : ∀ H1 locs1, Wd E ad ixC x' H1 → va_S A s.heap H1 locs1 → W p l e R s m args below meth c H1 locs1 cells slots Q (F0 m (pc + 3) ls (.int r :: rest))) : W p l e R s m args below meth c H locs cells slots Q (F0 m pc ls (.ref (E.2.2.1 v1) :: .ref (ad v0) :: rest)) :=
  rcV (n := 1) C0 (cc_RE_isWord hap ho_v0 ho_v1 hc) hP hS ho_v0 vcl_3 (by decide) gw_code_RE_isWord gw_m_RE_43 gw_inst_RE_isWord gw_sel_RE_isWord gw_ini_RE rfl rfl (by decide +kernel) rfl hR hls rfl hroom hdg hf (fun H1 locs1 a _ _ b => kk H1 locs1 a b)
theorem cl_RE_47 {p : Program} {l : Launch} {e : Env} {R : Room} {s : State} {m : MethodId} {args : Array Value} {below : List Frame} {meth : Method} {c : Code} {H : Heap} {locs : List Loc} {cells slots : Nat} {Q : State → Prop} {cc : ByteArray} {pc : Nat} {ls : Array Slot} {rest : List Value} {E : Ev} {A : Nat → Prop} {ad : Nat → Nat} {nL : Nat} {rt : Option FieldType} (C0 : Cx E A RRE cc nL rt p s m args meth c) (hap : Ap ad ixC A) {x x' : St} {v0 : Nat} {r : Unit} (ho_v0 : isO ixC v0 3) (hc : ff_RE_readMourner x v0 = some (r, x')) (hP : Wd E ad ixC x H) (hS : va_S A s.heap H locs) (hR : rm_RE_readMourner.frames + 1 ≤ R.frames ∧ 8 + (4 + 11) + rm_RE_readMourner.locals ≤ R.locals) (hls : ls.size = nL) (hroom : (rest.map fun v => v.category).sum ≤ 8) (hdg : decode cc pc = .ok (.invokevirtual 47, 3)) (hf : cells ≤ R.cells ∧ slots ≤ R.slots) (kk : ∀ H1 locs1, Wd E ad ixC x' H1 → va_S A s.heap H1 locs1 → W p l e R s m args below meth c H1 locs1 cells slots Q (F0 m (pc + 3) ls (rest))) : W p l e R s m args below meth c H locs cells slots Q (F0 m pc ls (.ref (ad v0) :: rest)) :=
  rcV (n := 0) C0 (cc_RE_readMourner hap ho_v0 hc) hP hS ho_v0 vcl_3 (by decide) gw_code_RE_readMourner gw_m_RE_47 gw_inst_RE_readMourner gw_sel_RE_readMourner gw_ini_RE rfl rfl (by decide +kernel) rfl hR hls rfl hroom hdg hf (fun H1 locs1 a _ _ b => kk H1 locs1 a b)
theorem cl_RE_52 {p : Program} {l : Launch} {e : Env} {R : Room} {s : State} {m : MethodId} {args : Array Value} {below : List Frame} {meth : Method} {c : Code} {H : Heap} {locs : List Loc} {cells slots : Nat} {Q : State → Prop} {cc : ByteArray} {pc : Nat} {ls : Array Slot} {rest : List Value} {E : Ev} {A : Nat → Prop} {ad : Nat → Nat} {nL : Nat} {rt : Option FieldType} (C0 : Cx E A RRE cc nL rt p s m args meth c) (hap : Ap ad ixC A) {x x' : St} {v0 : Nat} {r : Unit} (ho_v0 : isO ixC v0 3) (hc : ff_RE_readJoint x v0 = some (r, x')) (hP : Wd E ad ixC x H) (hS : va_S A s.heap H locs) (hR : rm_RE_readJoint.frames + 1 ≤ R.frames ∧ 8 + (2 + 11) + rm_RE_readJoint.locals ≤ R.locals) (hls : ls.size = nL) (hroom : (rest.map fun v => v.category).sum ≤ 8) (hdg : decode cc pc = .ok (.invokevirtual 52, 3)) (hf : cells ≤ R.cells ∧ slots ≤ R.slots) (kk : ∀ H1 locs1, Wd E ad ixC x' H1 → va_S A s.heap H1 locs1 → W p l e R s m args below meth c H1 locs1 cells slots Q (F0 m (pc + 3) ls (rest))) : W p l e R s m args below meth c H locs cells slots Q (F0 m pc ls (.ref (ad v0) :: rest)) :=
  rcV (n := 0) C0 (cc_RE_readJoint hap ho_v0 hc) hP hS ho_v0 vcl_3 (by decide) gw_code_RE_readJoint gw_m_RE_52 gw_inst_RE_readJoint gw_sel_RE_readJoint gw_ini_RE rfl rfl (by decide +kernel) rfl hR hls rfl hroom hdg hf (fun H1 locs1 a _ _ b => kk H1 locs1 a b)
theorem cl_RE_57 {p : Program} {l : Launch} {e : Env} {R : Room} {s : State} {m : MethodId} {args : Array Value} {below : List Frame} {meth : Method} {c : Code} {H : Heap} {locs : List Loc} {cells slots : Nat} {Q : State → Prop} {cc : ByteArray} {pc : Nat} {ls : Array Slot} {rest : List Value} {E : Ev} {A : Nat → Prop} {ad : Nat → Nat} {nL : Nat} {rt : Option FieldType} (C0 : Cx E A RRE cc nL rt p s m args meth c) (hap : Ap ad ixC A) {x x' : St} {v0 : Nat} {r : Unit} (ho_v0 : isO ixC v0 3) (hc : ff_RE_readPiece x v0 = some (r, x')) (hP : Wd E ad ixC x H) (hS : va_S A s.heap H locs) (hR : rm_RE_readPiece.frames + 1 ≤ R.frames ∧ 8 + (3 + 11) + rm_RE_readPiece.locals ≤ R.locals) (hls : ls.size = nL) (hroom : (rest.map fun v => v.category).sum ≤ 8) (hdg : decode cc pc = .ok (.invokevirtual 57, 3)) (hf : cells ≤ R.cells ∧ slots ≤ R.slots) (kk : ∀ H1 locs1, Wd E ad ixC x' H1 → va_S A s.heap H1 locs1 → W p l e R s m args below meth c H1 locs1 cells slots Q (F0 m (pc + 3) ls (rest))) : W p l e R s m args below meth c H locs cells slots Q (F0 m pc ls (.ref (ad v0) :: rest)) :=
  rcV (n := 0) C0 (cc_RE_readPiece hap ho_v0 hc) hP hS ho_v0 vcl_3 (by decide) gw_code_RE_readPiece gw_m_RE_57 gw_inst_RE_readPiece gw_sel_RE_readPiece gw_ini_RE rfl rfl (by decide +kernel) rfl hR hls rfl hroom hdg hf (fun H1 locs1 a _ _ b => kk H1 locs1 a b)
theorem cl_RE_62 {p : Program} {l : Launch} {e : Env} {R : Room} {s : State} {m : MethodId} {args : Array Value} {below : List Frame} {meth : Method} {c : Code} {H : Heap} {locs : List Loc} {cells slots : Nat} {Q : State → Prop} {cc : ByteArray} {pc : Nat} {ls : Array Slot} {rest : List Value} {E : Ev} {A : Nat → Prop} {ad : Nat → Nat} {nL : Nat} {rt : Option FieldType} (C0 : Cx E A RRE cc nL rt p s m args meth c) (hap : Ap ad ixC A) {x x' : St} {v0 : Nat} {v1 : Int32} {r : Unit} (ho_v0 : isO ixC v0 3) (hc : ff_RE_readFeast x v0 v1 = some (r, x')) (hP : Wd E ad ixC x H) (hS : va_S A s.heap H locs) (hR : rm_RE_readFeast.frames + 1 ≤ R.frames ∧ 8 + (4 + 11) + rm_RE_readFeast.locals ≤ R.locals) (hls : ls.size = nL) (hroom : (rest.map fun v => v.category).sum ≤ 8) (hdg : decode cc pc = .ok (.invokevirtual 62, 3)) (hf : cells ≤ R.cells ∧ slots ≤ R.slots) (kk : ∀ H1 locs1, Wd E ad ixC x' H1 → va_S A s.heap H1 locs1 → W p l e R s m args below meth c H1 locs1 cells slots Q (F0 m (pc + 3) ls (rest))) : W p l e R s m args below meth c H locs cells slots Q (F0 m pc ls (.int v1 :: .ref (ad v0) :: rest)) :=
  rcV (n := 1) C0 (cc_RE_readFeast hap ho_v0 hc) hP hS ho_v0 vcl_3 (by decide) gw_code_RE_readFeast gw_m_RE_62 gw_inst_RE_readFeast gw_sel_RE_readFeast gw_ini_RE rfl rfl (by decide +kernel) rfl hR hls rfl hroom hdg hf (fun H1 locs1 a _ _ b => kk H1 locs1 a b)
theorem cl_RE_70 {p : Program} {l : Launch} {e : Env} {R : Room} {s : State} {m : MethodId} {args : Array Value} {below : List Frame} {meth : Method} {c : Code} {H : Heap} {locs : List Loc} {cells slots : Nat} {Q : State → Prop} {cc : ByteArray} {pc : Nat} {ls : Array Slot} {rest : List Value} {E : Ev} {A : Nat → Prop} {ad : Nat → Nat} {nL : Nat} {rt : Option FieldType} (C0 : Cx E A RRE cc nL rt p s m args meth c) (hap : Ap ad ixC A) {x x' : St} {v0 : Nat} {r : Unit} (ho_v0 : isO ixC v0 3) (hc : ff_RE_readDay x v0 = some (r, x')) (hP : Wd E ad ixC x H) (hS : va_S A s.heap H locs) (hR : rm_RE_readDay.frames + 1 ≤ R.frames ∧ 8 + (2 + 11) + rm_RE_readDay.locals ≤ R.locals) (hls : ls.size = nL) (hroom : (rest.map fun v => v.category).sum ≤ 8) (hdg : decode cc pc = .ok (.invokevirtual 70, 3)) (hf : cells ≤ R.cells ∧ slots ≤ R.slots) (kk : ∀ H1 locs1, Wd E ad ixC x' H1 → va_S A s.heap H1 locs1 → W p l e R s m args below meth c H1 locs1 cells slots Q (F0 m (pc + 3) ls (rest))) : W p l e R s m args below meth c H locs cells slots Q (F0 m pc ls (.ref (ad v0) :: rest)) :=
  rcV (n := 0) C0 (cc_RE_readDay hap ho_v0 hc) hP hS ho_v0 vcl_3 (by decide) gw_code_RE_readDay gw_m_RE_70 gw_inst_RE_readDay gw_sel_RE_readDay gw_ini_RE rfl rfl (by decide +kernel) rfl hR hls rfl hroom hdg hf (fun H1 locs1 a _ _ b => kk H1 locs1 a b)
theorem cl_RE_75 {p : Program} {l : Launch} {e : Env} {R : Room} {s : State} {m : MethodId} {args : Array Value} {below : List Frame} {meth : Method} {c : Code} {H : Heap} {locs : List Loc} {cells slots : Nat} {Q : State → Prop} {cc : ByteArray} {pc : Nat} {ls : Array Slot} {rest : List Value} {E : Ev} {A : Nat → Prop} {ad : Nat → Nat} {nL : Nat} {rt : Option FieldType} (C0 : Cx E A RRE cc nL rt p s m args meth c) (hap : Ap ad ixC A) {x x' : St} {v0 : Nat} {r : Unit} (ho_v0 : isO ixC v0 3) (hc : ff_RE_readBoil x v0 = some (r, x')) (hP : Wd E ad ixC x H) (hS : va_S A s.heap H locs) (hR : rm_RE_readBoil.frames + 1 ≤ R.frames ∧ 8 + (4 + 11) + rm_RE_readBoil.locals ≤ R.locals) (hls : ls.size = nL) (hroom : (rest.map fun v => v.category).sum ≤ 8) (hdg : decode cc pc = .ok (.invokevirtual 75, 3)) (hf : cells ≤ R.cells ∧ slots ≤ R.slots) (kk : ∀ H1 locs1, Wd E ad ixC x' H1 → va_S A s.heap H1 locs1 → W p l e R s m args below meth c H1 locs1 cells slots Q (F0 m (pc + 3) ls (rest))) : W p l e R s m args below meth c H locs cells slots Q (F0 m pc ls (.ref (ad v0) :: rest)) :=
  rcV (n := 0) C0 (cc_RE_readBoil hap ho_v0 hc) hP hS ho_v0 vcl_3 (by decide) gw_code_RE_readBoil gw_m_RE_75 gw_inst_RE_readBoil gw_sel_RE_readBoil gw_ini_RE rfl rfl (by decide +kernel) rfl hR hls rfl hroom hdg hf (fun H1 locs1 a _ _ b => kk H1 locs1 a b)
abbrev rm_RE_readItems : Room := { frames := 5, cells := 0, slots := 0, locals := 107 }
theorem dd_RE_readItems_0 : decode bb_RE_readItems 0 = .ok (.aload_n 0, 1) := by decide +kernel
theorem dd_RE_readItems_1 : decode bb_RE_readItems 1 = .ok (.getfield 22, 3) := by decide +kernel
theorem dd_RE_readItems_4 : decode bb_RE_readItems 4 = .ok (.invokevirtual 29, 3) := by decide +kernel
theorem dd_RE_readItems_7 : decode bb_RE_readItems 7 = .ok (.aload_n 0, 1) := by decide +kernel
theorem dd_RE_readItems_8 : decode bb_RE_readItems 8 = .ok (.iconst 0, 1) := by decide +kernel
theorem dd_RE_readItems_9 : decode bb_RE_readItems 9 = .ok (.putfield 32, 3) := by decide +kernel
theorem dd_RE_readItems_12 : decode bb_RE_readItems 12 = .ok (.aload_n 0, 1) := by decide +kernel
theorem dd_RE_readItems_13 : decode bb_RE_readItems 13 = .ok (.iconst (-1), 1) := by decide +kernel
theorem dd_RE_readItems_14 : decode bb_RE_readItems 14 = .ok (.putfield 15, 3) := by decide +kernel
theorem dd_RE_readItems_17 : decode bb_RE_readItems 17 = .ok (.iconst 0, 1) := by decide +kernel
theorem dd_RE_readItems_18 : decode bb_RE_readItems 18 = .ok (.istore_n 1, 1) := by decide +kernel
theorem dd_RE_readItems_19 : decode bb_RE_readItems 19 = .ok (.iconst 0, 1) := by decide +kernel
theorem dd_RE_readItems_20 : decode bb_RE_readItems 20 = .ok (.istore_n 2, 1) := by decide +kernel
theorem dd_RE_readItems_21 : decode bb_RE_readItems 21 = .ok (.iload_n 2, 1) := by decide +kernel
theorem dd_RE_readItems_22 : decode bb_RE_readItems 22 = .ok (.aload_n 0, 1) := by decide +kernel
theorem dd_RE_readItems_23 : decode bb_RE_readItems 23 = .ok (.getfield 26, 3) := by decide +kernel
theorem dd_RE_readItems_26 : decode bb_RE_readItems 26 = .ok (.if_icmp .gt 152, 3) := by decide +kernel
theorem dd_RE_readItems_29 : decode bb_RE_readItems 29 = .ok (.aload_n 0, 1) := by decide +kernel
theorem dd_RE_readItems_30 : decode bb_RE_readItems 30 = .ok (.getfield 15, 3) := by decide +kernel
theorem dd_RE_readItems_33 : decode bb_RE_readItems 33 = .ok (.iconst (-1), 1) := by decide +kernel
theorem dd_RE_readItems_34 : decode bb_RE_readItems 34 = .ok (.if_icmp .ne 144, 3) := by decide +kernel
theorem dd_RE_readItems_37 : decode bb_RE_readItems 37 = .ok (.aload_n 0, 1) := by decide +kernel
theorem dd_RE_readItems_38 : decode bb_RE_readItems 38 = .ok (.invokevirtual 35, 3) := by decide +kernel
theorem dd_RE_readItems_41 : decode bb_RE_readItems 41 = .ok (.aload_n 0, 1) := by decide +kernel
theorem dd_RE_readItems_42 : decode bb_RE_readItems 42 = .ok (.getfield 38, 3) := by decide +kernel
theorem dd_RE_readItems_45 : decode bb_RE_readItems 45 = .ok (.ifCond .ne 6, 3) := by decide +kernel
theorem dd_RE_readItems_48 : decode bb_RE_readItems 48 = .ok (.goto 130, 3) := by decide +kernel
theorem dd_RE_readItems_51 : decode bb_RE_readItems 51 = .ok (.iinc 1 1, 3) := by decide +kernel
theorem dd_RE_readItems_54 : decode bb_RE_readItems 54 = .ok (.aload_n 0, 1) := by decide +kernel
theorem dd_RE_readItems_55 : decode bb_RE_readItems 55 = .ok (.ldc 41, 2) := by decide +kernel
theorem dd_RE_readItems_57 : decode bb_RE_readItems 57 = .ok (.invokevirtual 43, 3) := by decide +kernel
theorem dd_RE_readItems_60 : decode bb_RE_readItems 60 = .ok (.ifCond .eq 10, 3) := by decide +kernel
theorem dd_RE_readItems_63 : decode bb_RE_readItems 63 = .ok (.aload_n 0, 1) := by decide +kernel
theorem dd_RE_readItems_64 : decode bb_RE_readItems 64 = .ok (.invokevirtual 47, 3) := by decide +kernel
theorem dd_RE_readItems_67 : decode bb_RE_readItems 67 = .ok (.goto 105, 3) := by decide +kernel
theorem dd_RE_readItems_70 : decode bb_RE_readItems 70 = .ok (.aload_n 0, 1) := by decide +kernel
theorem dd_RE_readItems_71 : decode bb_RE_readItems 71 = .ok (.ldc 50, 2) := by decide +kernel
theorem dd_RE_readItems_73 : decode bb_RE_readItems 73 = .ok (.invokevirtual 43, 3) := by decide +kernel
theorem dd_RE_readItems_76 : decode bb_RE_readItems 76 = .ok (.ifCond .eq 10, 3) := by decide +kernel
theorem dd_RE_readItems_79 : decode bb_RE_readItems 79 = .ok (.aload_n 0, 1) := by decide +kernel
theorem dd_RE_readItems_80 : decode bb_RE_readItems 80 = .ok (.invokevirtual 52, 3) := by decide +kernel
theorem dd_RE_readItems_83 : decode bb_RE_readItems 83 = .ok (.goto 89, 3) := by decide +kernel
theorem dd_RE_readItems_86 : decode bb_RE_readItems 86 = .ok (.aload_n 0, 1) := by decide +kernel
theorem dd_RE_readItems_87 : decode bb_RE_readItems 87 = .ok (.ldc 55, 2) := by decide +kernel
theorem dd_RE_readItems_89 : decode bb_RE_readItems 89 = .ok (.invokevirtual 43, 3) := by decide +kernel
theorem dd_RE_readItems_92 : decode bb_RE_readItems 92 = .ok (.ifCond .eq 10, 3) := by decide +kernel
theorem dd_RE_readItems_95 : decode bb_RE_readItems 95 = .ok (.aload_n 0, 1) := by decide +kernel
theorem dd_RE_readItems_96 : decode bb_RE_readItems 96 = .ok (.invokevirtual 57, 3) := by decide +kernel
theorem dd_RE_readItems_99 : decode bb_RE_readItems 99 = .ok (.goto 73, 3) := by decide +kernel
theorem dd_RE_readItems_102 : decode bb_RE_readItems 102 = .ok (.aload_n 0, 1) := by decide +kernel
theorem dd_RE_readItems_103 : decode bb_RE_readItems 103 = .ok (.ldc 60, 2) := by decide +kernel
theorem dd_RE_readItems_105 : decode bb_RE_readItems 105 = .ok (.invokevirtual 43, 3) := by decide +kernel
theorem dd_RE_readItems_108 : decode bb_RE_readItems 108 = .ok (.ifCond .eq 11, 3) := by decide +kernel
theorem dd_RE_readItems_111 : decode bb_RE_readItems 111 = .ok (.aload_n 0, 1) := by decide +kernel
theorem dd_RE_readItems_112 : decode bb_RE_readItems 112 = .ok (.iconst 0, 1) := by decide +kernel
theorem dd_RE_readItems_113 : decode bb_RE_readItems 113 = .ok (.invokevirtual 62, 3) := by decide +kernel
theorem dd_RE_readItems_116 : decode bb_RE_readItems 116 = .ok (.goto 56, 3) := by decide +kernel
theorem dd_RE_readItems_119 : decode bb_RE_readItems 119 = .ok (.aload_n 0, 1) := by decide +kernel
theorem dd_RE_readItems_120 : decode bb_RE_readItems 120 = .ok (.ldc 66, 2) := by decide +kernel
theorem dd_RE_readItems_122 : decode bb_RE_readItems 122 = .ok (.invokevirtual 43, 3) := by decide +kernel
theorem dd_RE_readItems_125 : decode bb_RE_readItems 125 = .ok (.ifCond .eq 11, 3) := by decide +kernel
theorem dd_RE_readItems_128 : decode bb_RE_readItems 128 = .ok (.aload_n 0, 1) := by decide +kernel
theorem dd_RE_readItems_129 : decode bb_RE_readItems 129 = .ok (.iconst 1, 1) := by decide +kernel
theorem dd_RE_readItems_130 : decode bb_RE_readItems 130 = .ok (.invokevirtual 62, 3) := by decide +kernel
theorem dd_RE_readItems_133 : decode bb_RE_readItems 133 = .ok (.goto 39, 3) := by decide +kernel
theorem dd_RE_readItems_136 : decode bb_RE_readItems 136 = .ok (.aload_n 0, 1) := by decide +kernel
theorem dd_RE_readItems_137 : decode bb_RE_readItems 137 = .ok (.ldc 68, 2) := by decide +kernel
theorem dd_RE_readItems_139 : decode bb_RE_readItems 139 = .ok (.invokevirtual 43, 3) := by decide +kernel
theorem dd_RE_readItems_142 : decode bb_RE_readItems 142 = .ok (.ifCond .eq 10, 3) := by decide +kernel
theorem dd_RE_readItems_145 : decode bb_RE_readItems 145 = .ok (.aload_n 0, 1) := by decide +kernel
theorem dd_RE_readItems_146 : decode bb_RE_readItems 146 = .ok (.invokevirtual 70, 3) := by decide +kernel
theorem dd_RE_readItems_149 : decode bb_RE_readItems 149 = .ok (.goto 23, 3) := by decide +kernel
theorem dd_RE_readItems_152 : decode bb_RE_readItems 152 = .ok (.aload_n 0, 1) := by decide +kernel
theorem dd_RE_readItems_153 : decode bb_RE_readItems 153 = .ok (.ldc 73, 2) := by decide +kernel
theorem dd_RE_readItems_155 : decode bb_RE_readItems 155 = .ok (.invokevirtual 43, 3) := by decide +kernel
theorem dd_RE_readItems_158 : decode bb_RE_readItems 158 = .ok (.ifCond .eq 10, 3) := by decide +kernel
theorem dd_RE_readItems_161 : decode bb_RE_readItems 161 = .ok (.aload_n 0, 1) := by decide +kernel
theorem dd_RE_readItems_162 : decode bb_RE_readItems 162 = .ok (.invokevirtual 75, 3) := by decide +kernel
theorem dd_RE_readItems_165 : decode bb_RE_readItems 165 = .ok (.goto 7, 3) := by decide +kernel
theorem dd_RE_readItems_168 : decode bb_RE_readItems 168 = .ok (.aload_n 0, 1) := by decide +kernel
theorem dd_RE_readItems_169 : decode bb_RE_readItems 169 = .ok (.invokevirtual 78, 3) := by decide +kernel
theorem dd_RE_readItems_172 : decode bb_RE_readItems 172 = .ok (.iinc 2 1, 3) := by decide +kernel
theorem dd_RE_readItems_175 : decode bb_RE_readItems 175 = .ok (.goto (-154), 3) := by decide +kernel
theorem dd_RE_readItems_178 : decode bb_RE_readItems 178 = .ok (.iload_n 1, 1) := by decide +kernel
theorem dd_RE_readItems_179 : decode bb_RE_readItems 179 = .ok (.ireturn, 1) := by decide +kernel
def ff_RE_readItems_21  : Nat → St → Nat → Int32 → Int32 → Option (Int32 × St)
  | 0, _, _, _, _ => none
  | n + 1, x, v0, v1, v2 => (if (gi x v0 1) < v2 then some (v1, x) else (if (gi x v0 3) = (-1) then bnd (ff_RE_nextToken x v0) (fun _ x_9 => (if (gi x_9 v0 5) = 0 then some (v1, x_9) else bnd (ff_RE_isWord x_9 v0 0) (fun r_12 x_13 => (if r_12 = 0 then bnd (ff_RE_isWord x_13 v0 1) (fun r_16 x_17 => (if r_16 = 0 then bnd (ff_RE_isWord x_17 v0 2) (fun r_20 x_21 => (if r_20 = 0 then bnd (ff_RE_isWord x_21 v0 3) (fun r_24 x_25 => (if r_24 = 0 then bnd (ff_RE_isWord x_25 v0 4) (fun r_28 x_29 => (if r_28 = 0 then bnd (ff_RE_isWord x_29 v0 5) (fun r_32 x_33 => (if r_32 = 0 then bnd (ff_RE_isWord x_33 v0 6) (fun r_36 x_37 => (if r_36 = 0 then bnd (ff_RE_blame x_37 v0) (fun _ x_41 => ff_RE_readItems_21 n x_41 v0 (v1 + 1) (v2 + 1)) else bnd (ff_RE_readBoil x_37 v0) (fun _ x_44 => ff_RE_readItems_21 n x_44 v0 (v1 + 1) (v2 + 1)))) else bnd (ff_RE_readDay x_33 v0) (fun _ x_47 => ff_RE_readItems_21 n x_47 v0 (v1 + 1) (v2 + 1)))) else bnd (ff_RE_readFeast x_29 v0 1) (fun _ x_50 => ff_RE_readItems_21 n x_50 v0 (v1 + 1) (v2 + 1)))) else bnd (ff_RE_readFeast x_25 v0 0) (fun _ x_53 => ff_RE_readItems_21 n x_53 v0 (v1 + 1) (v2 + 1)))) else bnd (ff_RE_readPiece x_21 v0) (fun _ x_56 => ff_RE_readItems_21 n x_56 v0 (v1 + 1) (v2 + 1)))) else bnd (ff_RE_readJoint x_17 v0) (fun _ x_59 => ff_RE_readItems_21 n x_59 v0 (v1 + 1) (v2 + 1)))) else bnd (ff_RE_readMourner x_13 v0) (fun _ x_62 => ff_RE_readItems_21 n x_62 v0 (v1 + 1) (v2 + 1)))))) else some (v1, x)))
def ff_RE_readItems  (x : St) (v0 : Nat) : Option (Int32 × St) := bnd (ff_SH_makeEmpty x (rf v0 4)) (fun _ x_2 => st (si x_2 v0 2 0) (fun x_4 => st (si x_4 v0 3 (-1)) (fun x_5 => ff_RE_readItems_21 FU x_5 v0 0 0)))
set_option maxHeartbeats 4000000 in
set_option maxRecDepth 100000 in
theorem ww_RE_readItems_21 {p : Program} {l : Launch} {e : Env} {s : State} {m : MethodId} {args : Array Value} {below : List Frame} {meth : Method} {c : Code} {E : Ev} {A : Nat → Prop} {ad : Nat → Nat} {r : Int32} {x' : St} (C0 : Cx E A RRE bb_RE_readItems 3 (some .int) p s m args meth c) (hap : Ap ad ixC A)  : ∀ (n : Nat), ∀ (x : St) (v0 : Nat) (v1 : Int32) (v2 : Int32), (isO ixC v0 3) → ff_RE_readItems_21 n x v0 v1 v2 = some (r, x') → ∀ (H : Heap) (locs : List Loc) (ls : Array Slot), Wd E ad ixC x H → va_S A s.heap H locs → lv_has ls 3 [(0, .ref (ad v0)), (1, .int v1), (2, .int v2)] → W p l e rm_RE_readItems s m args below meth c H locs 0 0 (MQ below (QX E ad ixC A (some (.int r)) x') args s 0 0 A) (F0 m 21 ls []) := by
  obtain ⟨hx, hb, hml, hr, hown, hts, hlk, hK⟩ := id C0
  intro n
  induction n with
  | zero => intro x v0 v1 v2 ho_v0 hf; exact of_no hf
  | succ n ih =>
    intro x v0 v1 v2 ho_v0 hf H locs ls hP hS hl
    have hf : (if (gi x v0 1) < v2 then some (v1, x) else (if (gi x v0 3) = (-1) then bnd (ff_RE_nextToken x v0) (fun _ x_9 => (if (gi x_9 v0 5) = 0 then some (v1, x_9) else bnd (ff_RE_isWord x_9 v0 0) (fun r_12 x_13 => (if r_12 = 0 then bnd (ff_RE_isWord x_13 v0 1) (fun r_16 x_17 => (if r_16 = 0 then bnd (ff_RE_isWord x_17 v0 2) (fun r_20 x_21 => (if r_20 = 0 then bnd (ff_RE_isWord x_21 v0 3) (fun r_24 x_25 => (if r_24 = 0 then bnd (ff_RE_isWord x_25 v0 4) (fun r_28 x_29 => (if r_28 = 0 then bnd (ff_RE_isWord x_29 v0 5) (fun r_32 x_33 => (if r_32 = 0 then bnd (ff_RE_isWord x_33 v0 6) (fun r_36 x_37 => (if r_36 = 0 then bnd (ff_RE_blame x_37 v0) (fun _ x_41 => ff_RE_readItems_21 n x_41 v0 (v1 + 1) (v2 + 1)) else bnd (ff_RE_readBoil x_37 v0) (fun _ x_44 => ff_RE_readItems_21 n x_44 v0 (v1 + 1) (v2 + 1)))) else bnd (ff_RE_readDay x_33 v0) (fun _ x_47 => ff_RE_readItems_21 n x_47 v0 (v1 + 1) (v2 + 1)))) else bnd (ff_RE_readFeast x_29 v0 1) (fun _ x_50 => ff_RE_readItems_21 n x_50 v0 (v1 + 1) (v2 + 1)))) else bnd (ff_RE_readFeast x_25 v0 0) (fun _ x_53 => ff_RE_readItems_21 n x_53 v0 (v1 + 1) (v2 + 1)))) else bnd (ff_RE_readPiece x_21 v0) (fun _ x_56 => ff_RE_readItems_21 n x_56 v0 (v1 + 1) (v2 + 1)))) else bnd (ff_RE_readJoint x_17 v0) (fun _ x_59 => ff_RE_readItems_21 n x_59 v0 (v1 + 1) (v2 + 1)))) else bnd (ff_RE_readMourner x_13 v0) (fun _ x_62 => ff_RE_readItems_21 n x_62 v0 (v1 + 1) (v2 + 1)))))) else some (v1, x))) = some (r, x') := hf
    refine lv_iload_n hx hb dd_RE_readItems_21 rfl (lv_at hl 2 rfl) ?_
    refine lv_aload_n hx hb dd_RE_readItems_22 rfl (lv_at hl 0 rfl) ?_
    refine gf_RE_26 C0 hP ho_v0 dd_RE_readItems_23 ?_
    refine lv_icmp_gt (tgt := 178) hx hb dd_RE_readItems_26 (by decide) (fun h_6 => ?_) (fun h_6 => ?_)
    · have hf := (if_pos h_6).symm.trans hf
      refine lv_iload_n hx hb dd_RE_readItems_178 rfl (lv_at hl 1 rfl) ?_
      exact rrI C0 hP hS dd_RE_readItems_179 hf
    · have hf := (if_neg h_6).symm.trans hf
      refine lv_aload_n hx hb dd_RE_readItems_29 rfl (lv_at hl 0 rfl) ?_
      refine gf_RE_15 C0 hP ho_v0 dd_RE_readItems_30 ?_
      refine lv_iconst (v := -1) hx hb dd_RE_readItems_33 (by decide) ?_
      refine lv_icmp_ne (tgt := 178) hx hb dd_RE_readItems_34 (by decide) (fun h_7 => ?_) (fun h_7 => ?_)
      · have hf := (if_neg h_7).symm.trans hf
        refine lv_iload_n hx hb dd_RE_readItems_178 rfl (lv_at hl 1 rfl) ?_
        exact rrI C0 hP hS dd_RE_readItems_179 hf
      · have hf := (if_pos h_7).symm.trans hf
        refine lv_aload_n hx hb dd_RE_readItems_37 rfl (lv_at hl 0 rfl) ?_
        obtain ⟨_, x_9, c_10, hf⟩ := of_bnd hf
        refine cl_RE_35 C0 hap ho_v0 c_10 hP hS ⟨Nat.le_of_ble_eq_true rfl, Nat.le_of_ble_eq_true rfl⟩ hl.1 (Nat.le_of_ble_eq_true rfl) dd_RE_readItems_38 ⟨Nat.le_refl _, Nat.le_refl _⟩ (fun H locs hP hS => ?_)
        refine lv_aload_n hx hb dd_RE_readItems_41 rfl (lv_at hl 0 rfl) ?_
        refine gf_RE_38 C0 hP ho_v0 dd_RE_readItems_42 ?_
        refine lv_if_ne (tgt := 51) hx hb dd_RE_readItems_45 (by decide) (fun h_11 => ?_) (fun h_11 => ?_)
        · have hf := (if_neg h_11).symm.trans hf
          refine lv_iinc (v := v1 + 1) (lv' := [(1, .int (v1 + 1)), (0, .ref (ad v0)), (2, .int v2)]) hx hb dd_RE_readItems_51 hl (k := 1) rfl rfl (by decide) rfl (fun ls hl => ?_)
          refine lv_aload_n hx hb dd_RE_readItems_54 rfl (lv_at hl 1 rfl) ?_
          refine va_ldcS hx hb hown (hK.2.2.2.1 0 (by decide)) dd_RE_readItems_55 ?_
          obtain ⟨r_12, x_13, c_14, hf⟩ := of_bnd hf
          refine cl_RE_43 C0 hap ho_v0 (by decide) c_14 hP hS ⟨Nat.le_of_ble_eq_true rfl, Nat.le_of_ble_eq_true rfl⟩ hl.1 (Nat.le_of_ble_eq_true rfl) dd_RE_readItems_57 ⟨Nat.le_refl _, Nat.le_refl _⟩ (fun H locs hP hS => ?_)
          refine lv_if_eq (tgt := 70) hx hb dd_RE_readItems_60 (by decide) (fun h_15 => ?_) (fun h_15 => ?_)
          · have hf := (if_pos h_15).symm.trans hf
            refine lv_aload_n hx hb dd_RE_readItems_70 rfl (lv_at hl 1 rfl) ?_
            refine va_ldcS hx hb hown (hK.2.2.2.1 1 (by decide)) dd_RE_readItems_71 ?_
            obtain ⟨r_16, x_17, c_18, hf⟩ := of_bnd hf
            refine cl_RE_43 C0 hap ho_v0 (by decide) c_18 hP hS ⟨Nat.le_of_ble_eq_true rfl, Nat.le_of_ble_eq_true rfl⟩ hl.1 (Nat.le_of_ble_eq_true rfl) dd_RE_readItems_73 ⟨Nat.le_refl _, Nat.le_refl _⟩ (fun H locs hP hS => ?_)
            refine lv_if_eq (tgt := 86) hx hb dd_RE_readItems_76 (by decide) (fun h_19 => ?_) (fun h_19 => ?_)
            · have hf := (if_pos h_19).symm.trans hf
              refine lv_aload_n hx hb dd_RE_readItems_86 rfl (lv_at hl 1 rfl) ?_
              refine va_ldcS hx hb hown (hK.2.2.2.1 2 (by decide)) dd_RE_readItems_87 ?_
              obtain ⟨r_20, x_21, c_22, hf⟩ := of_bnd hf
              refine cl_RE_43 C0 hap ho_v0 (by decide) c_22 hP hS ⟨Nat.le_of_ble_eq_true rfl, Nat.le_of_ble_eq_true rfl⟩ hl.1 (Nat.le_of_ble_eq_true rfl) dd_RE_readItems_89 ⟨Nat.le_refl _, Nat.le_refl _⟩ (fun H locs hP hS => ?_)
              refine lv_if_eq (tgt := 102) hx hb dd_RE_readItems_92 (by decide) (fun h_23 => ?_) (fun h_23 => ?_)
              · have hf := (if_pos h_23).symm.trans hf
                refine lv_aload_n hx hb dd_RE_readItems_102 rfl (lv_at hl 1 rfl) ?_
                refine va_ldcS hx hb hown (hK.2.2.2.1 3 (by decide)) dd_RE_readItems_103 ?_
                obtain ⟨r_24, x_25, c_26, hf⟩ := of_bnd hf
                refine cl_RE_43 C0 hap ho_v0 (by decide) c_26 hP hS ⟨Nat.le_of_ble_eq_true rfl, Nat.le_of_ble_eq_true rfl⟩ hl.1 (Nat.le_of_ble_eq_true rfl) dd_RE_readItems_105 ⟨Nat.le_refl _, Nat.le_refl _⟩ (fun H locs hP hS => ?_)
                refine lv_if_eq (tgt := 119) hx hb dd_RE_readItems_108 (by decide) (fun h_27 => ?_) (fun h_27 => ?_)
                · have hf := (if_pos h_27).symm.trans hf
                  refine lv_aload_n hx hb dd_RE_readItems_119 rfl (lv_at hl 1 rfl) ?_
                  refine va_ldcS hx hb hown (hK.2.2.2.1 4 (by decide)) dd_RE_readItems_120 ?_
                  obtain ⟨r_28, x_29, c_30, hf⟩ := of_bnd hf
                  refine cl_RE_43 C0 hap ho_v0 (by decide) c_30 hP hS ⟨Nat.le_of_ble_eq_true rfl, Nat.le_of_ble_eq_true rfl⟩ hl.1 (Nat.le_of_ble_eq_true rfl) dd_RE_readItems_122 ⟨Nat.le_refl _, Nat.le_refl _⟩ (fun H locs hP hS => ?_)
                  refine lv_if_eq (tgt := 136) hx hb dd_RE_readItems_125 (by decide) (fun h_31 => ?_) (fun h_31 => ?_)
                  · have hf := (if_pos h_31).symm.trans hf
                    refine lv_aload_n hx hb dd_RE_readItems_136 rfl (lv_at hl 1 rfl) ?_
                    refine va_ldcS hx hb hown (hK.2.2.2.1 5 (by decide)) dd_RE_readItems_137 ?_
                    obtain ⟨r_32, x_33, c_34, hf⟩ := of_bnd hf
                    refine cl_RE_43 C0 hap ho_v0 (by decide) c_34 hP hS ⟨Nat.le_of_ble_eq_true rfl, Nat.le_of_ble_eq_true rfl⟩ hl.1 (Nat.le_of_ble_eq_true rfl) dd_RE_readItems_139 ⟨Nat.le_refl _, Nat.le_refl _⟩ (fun H locs hP hS => ?_)
                    refine lv_if_eq (tgt := 152) hx hb dd_RE_readItems_142 (by decide) (fun h_35 => ?_) (fun h_35 => ?_)
                    · have hf := (if_pos h_35).symm.trans hf
                      refine lv_aload_n hx hb dd_RE_readItems_152 rfl (lv_at hl 1 rfl) ?_
                      refine va_ldcS hx hb hown (hK.2.2.2.1 6 (by decide)) dd_RE_readItems_153 ?_
                      obtain ⟨r_36, x_37, c_38, hf⟩ := of_bnd hf
                      refine cl_RE_43 C0 hap ho_v0 (by decide) c_38 hP hS ⟨Nat.le_of_ble_eq_true rfl, Nat.le_of_ble_eq_true rfl⟩ hl.1 (Nat.le_of_ble_eq_true rfl) dd_RE_readItems_155 ⟨Nat.le_refl _, Nat.le_refl _⟩ (fun H locs hP hS => ?_)
                      refine lv_if_eq (tgt := 168) hx hb dd_RE_readItems_158 (by decide) (fun h_39 => ?_) (fun h_39 => ?_)
                      · have hf := (if_pos h_39).symm.trans hf
                        refine lv_aload_n hx hb dd_RE_readItems_168 rfl (lv_at hl 1 rfl) ?_
                        obtain ⟨_, x_41, c_42, hf⟩ := of_bnd hf
                        refine cl_RE_78 C0 hap ho_v0 c_42 hP hS ⟨Nat.le_of_ble_eq_true rfl, Nat.le_of_ble_eq_true rfl⟩ hl.1 (Nat.le_of_ble_eq_true rfl) dd_RE_readItems_169 ⟨Nat.le_refl _, Nat.le_refl _⟩ (fun H locs hP hS => ?_)
                        refine lv_iinc (v := v2 + 1) (lv' := [(2, .int (v2 + 1)), (1, .int (v1 + 1)), (0, .ref (ad v0))]) hx hb dd_RE_readItems_172 hl (k := 2) rfl rfl (by decide) rfl (fun ls hl => ?_)
                        refine lv_goto (tgt := 21) hx hb dd_RE_readItems_175 (by decide) ?_
                        exact ih x_41 v0 (v1 + 1) (v2 + 1) ho_v0 hf _ _ _ hP hS (lv_sub hl [2, 1, 0] rfl)
                      · have hf := (if_neg h_39).symm.trans hf
                        refine lv_aload_n hx hb dd_RE_readItems_161 rfl (lv_at hl 1 rfl) ?_
                        obtain ⟨_, x_44, c_45, hf⟩ := of_bnd hf
                        refine cl_RE_75 C0 hap ho_v0 c_45 hP hS ⟨Nat.le_of_ble_eq_true rfl, Nat.le_of_ble_eq_true rfl⟩ hl.1 (Nat.le_of_ble_eq_true rfl) dd_RE_readItems_162 ⟨Nat.le_refl _, Nat.le_refl _⟩ (fun H locs hP hS => ?_)
                        refine lv_goto (tgt := 172) hx hb dd_RE_readItems_165 (by decide) ?_
                        refine lv_iinc (v := v2 + 1) (lv' := [(2, .int (v2 + 1)), (1, .int (v1 + 1)), (0, .ref (ad v0))]) hx hb dd_RE_readItems_172 hl (k := 2) rfl rfl (by decide) rfl (fun ls hl => ?_)
                        refine lv_goto (tgt := 21) hx hb dd_RE_readItems_175 (by decide) ?_
                        exact ih x_44 v0 (v1 + 1) (v2 + 1) ho_v0 hf _ _ _ hP hS (lv_sub hl [2, 1, 0] rfl)
                    · have hf := (if_neg h_35).symm.trans hf
                      refine lv_aload_n hx hb dd_RE_readItems_145 rfl (lv_at hl 1 rfl) ?_
                      obtain ⟨_, x_47, c_48, hf⟩ := of_bnd hf
                      refine cl_RE_70 C0 hap ho_v0 c_48 hP hS ⟨Nat.le_of_ble_eq_true rfl, Nat.le_of_ble_eq_true rfl⟩ hl.1 (Nat.le_of_ble_eq_true rfl) dd_RE_readItems_146 ⟨Nat.le_refl _, Nat.le_refl _⟩ (fun H locs hP hS => ?_)
                      refine lv_goto (tgt := 172) hx hb dd_RE_readItems_149 (by decide) ?_
                      refine lv_iinc (v := v2 + 1) (lv' := [(2, .int (v2 + 1)), (1, .int (v1 + 1)), (0, .ref (ad v0))]) hx hb dd_RE_readItems_172 hl (k := 2) rfl rfl (by decide) rfl (fun ls hl => ?_)
                      refine lv_goto (tgt := 21) hx hb dd_RE_readItems_175 (by decide) ?_
                      exact ih x_47 v0 (v1 + 1) (v2 + 1) ho_v0 hf _ _ _ hP hS (lv_sub hl [2, 1, 0] rfl)
                  · have hf := (if_neg h_31).symm.trans hf
                    refine lv_aload_n hx hb dd_RE_readItems_128 rfl (lv_at hl 1 rfl) ?_
                    refine lv_iconst (v := 1) hx hb dd_RE_readItems_129 (by decide) ?_
                    obtain ⟨_, x_50, c_51, hf⟩ := of_bnd hf
                    refine cl_RE_62 C0 hap ho_v0 c_51 hP hS ⟨Nat.le_of_ble_eq_true rfl, Nat.le_of_ble_eq_true rfl⟩ hl.1 (Nat.le_of_ble_eq_true rfl) dd_RE_readItems_130 ⟨Nat.le_refl _, Nat.le_refl _⟩ (fun H locs hP hS => ?_)
                    refine lv_goto (tgt := 172) hx hb dd_RE_readItems_133 (by decide) ?_
                    refine lv_iinc (v := v2 + 1) (lv' := [(2, .int (v2 + 1)), (1, .int (v1 + 1)), (0, .ref (ad v0))]) hx hb dd_RE_readItems_172 hl (k := 2) rfl rfl (by decide) rfl (fun ls hl => ?_)
                    refine lv_goto (tgt := 21) hx hb dd_RE_readItems_175 (by decide) ?_
                    exact ih x_50 v0 (v1 + 1) (v2 + 1) ho_v0 hf _ _ _ hP hS (lv_sub hl [2, 1, 0] rfl)
                · have hf := (if_neg h_27).symm.trans hf
                  refine lv_aload_n hx hb dd_RE_readItems_111 rfl (lv_at hl 1 rfl) ?_
                  refine lv_iconst (v := 0) hx hb dd_RE_readItems_112 (by decide) ?_
                  obtain ⟨_, x_53, c_54, hf⟩ := of_bnd hf
                  refine cl_RE_62 C0 hap ho_v0 c_54 hP hS ⟨Nat.le_of_ble_eq_true rfl, Nat.le_of_ble_eq_true rfl⟩ hl.1 (Nat.le_of_ble_eq_true rfl) dd_RE_readItems_113 ⟨Nat.le_refl _, Nat.le_refl _⟩ (fun H locs hP hS => ?_)
                  refine lv_goto (tgt := 172) hx hb dd_RE_readItems_116 (by decide) ?_
                  refine lv_iinc (v := v2 + 1) (lv' := [(2, .int (v2 + 1)), (1, .int (v1 + 1)), (0, .ref (ad v0))]) hx hb dd_RE_readItems_172 hl (k := 2) rfl rfl (by decide) rfl (fun ls hl => ?_)
                  refine lv_goto (tgt := 21) hx hb dd_RE_readItems_175 (by decide) ?_
                  exact ih x_53 v0 (v1 + 1) (v2 + 1) ho_v0 hf _ _ _ hP hS (lv_sub hl [2, 1, 0] rfl)
              · have hf := (if_neg h_23).symm.trans hf
                refine lv_aload_n hx hb dd_RE_readItems_95 rfl (lv_at hl 1 rfl) ?_
                obtain ⟨_, x_56, c_57, hf⟩ := of_bnd hf
                refine cl_RE_57 C0 hap ho_v0 c_57 hP hS ⟨Nat.le_of_ble_eq_true rfl, Nat.le_of_ble_eq_true rfl⟩ hl.1 (Nat.le_of_ble_eq_true rfl) dd_RE_readItems_96 ⟨Nat.le_refl _, Nat.le_refl _⟩ (fun H locs hP hS => ?_)
                refine lv_goto (tgt := 172) hx hb dd_RE_readItems_99 (by decide) ?_
                refine lv_iinc (v := v2 + 1) (lv' := [(2, .int (v2 + 1)), (1, .int (v1 + 1)), (0, .ref (ad v0))]) hx hb dd_RE_readItems_172 hl (k := 2) rfl rfl (by decide) rfl (fun ls hl => ?_)
                refine lv_goto (tgt := 21) hx hb dd_RE_readItems_175 (by decide) ?_
                exact ih x_56 v0 (v1 + 1) (v2 + 1) ho_v0 hf _ _ _ hP hS (lv_sub hl [2, 1, 0] rfl)
            · have hf := (if_neg h_19).symm.trans hf
              refine lv_aload_n hx hb dd_RE_readItems_79 rfl (lv_at hl 1 rfl) ?_
              obtain ⟨_, x_59, c_60, hf⟩ := of_bnd hf
              refine cl_RE_52 C0 hap ho_v0 c_60 hP hS ⟨Nat.le_of_ble_eq_true rfl, Nat.le_of_ble_eq_true rfl⟩ hl.1 (Nat.le_of_ble_eq_true rfl) dd_RE_readItems_80 ⟨Nat.le_refl _, Nat.le_refl _⟩ (fun H locs hP hS => ?_)
              refine lv_goto (tgt := 172) hx hb dd_RE_readItems_83 (by decide) ?_
              refine lv_iinc (v := v2 + 1) (lv' := [(2, .int (v2 + 1)), (1, .int (v1 + 1)), (0, .ref (ad v0))]) hx hb dd_RE_readItems_172 hl (k := 2) rfl rfl (by decide) rfl (fun ls hl => ?_)
              refine lv_goto (tgt := 21) hx hb dd_RE_readItems_175 (by decide) ?_
              exact ih x_59 v0 (v1 + 1) (v2 + 1) ho_v0 hf _ _ _ hP hS (lv_sub hl [2, 1, 0] rfl)
          · have hf := (if_neg h_15).symm.trans hf
            refine lv_aload_n hx hb dd_RE_readItems_63 rfl (lv_at hl 1 rfl) ?_
            obtain ⟨_, x_62, c_63, hf⟩ := of_bnd hf
            refine cl_RE_47 C0 hap ho_v0 c_63 hP hS ⟨Nat.le_of_ble_eq_true rfl, Nat.le_of_ble_eq_true rfl⟩ hl.1 (Nat.le_of_ble_eq_true rfl) dd_RE_readItems_64 ⟨Nat.le_refl _, Nat.le_refl _⟩ (fun H locs hP hS => ?_)
            refine lv_goto (tgt := 172) hx hb dd_RE_readItems_67 (by decide) ?_
            refine lv_iinc (v := v2 + 1) (lv' := [(2, .int (v2 + 1)), (1, .int (v1 + 1)), (0, .ref (ad v0))]) hx hb dd_RE_readItems_172 hl (k := 2) rfl rfl (by decide) rfl (fun ls hl => ?_)
            refine lv_goto (tgt := 21) hx hb dd_RE_readItems_175 (by decide) ?_
            exact ih x_62 v0 (v1 + 1) (v2 + 1) ho_v0 hf _ _ _ hP hS (lv_sub hl [2, 1, 0] rfl)
        · have hf := (if_pos h_11).symm.trans hf
          refine lv_goto (tgt := 178) hx hb dd_RE_readItems_48 (by decide) ?_
          refine lv_iload_n hx hb dd_RE_readItems_178 rfl (lv_at hl 1 rfl) ?_
          exact rrI C0 hP hS dd_RE_readItems_179 hf
set_option maxHeartbeats 4000000 in
set_option maxRecDepth 100000 in
theorem ww_RE_readItems {p : Program} {l : Launch} {e : Env} {s : State} {m : MethodId} {args : Array Value} {below : List Frame} {meth : Method} {c : Code} {E : Ev} {A : Nat → Prop} {ad : Nat → Nat} {r : Int32} {x' : St} (C0 : Cx E A RRE bb_RE_readItems 3 (some .int) p s m args meth c) (hap : Ap ad ixC A)  {x : St} {v0 : Nat} (ho_v0 : isO ixC v0 3) (hf : ff_RE_readItems x v0 = some (r, x')) {H : Heap} {locs : List Loc} {ls : Array Slot} (hP : Wd E ad ixC x H) (hS : va_S A s.heap H locs) (hl : lv_has ls 3 [(0, .ref (ad v0))]) : W p l e rm_RE_readItems s m args below meth c H locs 0 0 (MQ below (QX E ad ixC A (some (.int r)) x') args s 0 0 A) (F0 m 0 ls []) := by
  obtain ⟨hx, hb, hml, hr, hown, hts, hlk, hK⟩ := id C0
  have hf : bnd (ff_SH_makeEmpty x (rf v0 4)) (fun _ x_2 => st (si x_2 v0 2 0) (fun x_4 => st (si x_4 v0 3 (-1)) (fun x_5 => ff_RE_readItems_21 FU x_5 v0 0 0))) = some (r, x') := hf
  refine lv_aload_n hx hb dd_RE_readItems_0 rfl (lv_at hl 0 rfl) ?_
  refine gf_RE_22 C0 hP ho_v0 dd_RE_readItems_1 ?_
  obtain ⟨_, x_2, c_3, hf⟩ := of_bnd hf
  refine cl_RE_29 C0 hap (tp_3_4 ho_v0) c_3 hP hS ⟨Nat.le_of_ble_eq_true rfl, Nat.le_of_ble_eq_true rfl⟩ hl.1 (Nat.le_of_ble_eq_true rfl) dd_RE_readItems_4 ⟨Nat.le_refl _, Nat.le_refl _⟩ (fun H locs hP hS => ?_)
  refine lv_aload_n hx hb dd_RE_readItems_7 rfl (lv_at hl 0 rfl) ?_
  refine lv_iconst (v := 0) hx hb dd_RE_readItems_8 (by decide) ?_
  obtain ⟨x_4, hx_4, hf⟩ := of_st hf
  refine pf_RE_32 C0 hap hP hS ho_v0 hx_4 dd_RE_readItems_9 (fun H locs hP hS => ?_)
  refine lv_aload_n hx hb dd_RE_readItems_12 rfl (lv_at hl 0 rfl) ?_
  refine lv_iconst (v := -1) hx hb dd_RE_readItems_13 (by decide) ?_
  obtain ⟨x_5, hx_5, hf⟩ := of_st hf
  refine pf_RE_15 C0 hap hP hS ho_v0 hx_5 dd_RE_readItems_14 (fun H locs hP hS => ?_)
  refine lv_iconst (v := 0) hx hb dd_RE_readItems_17 (by decide) ?_
  refine lv_istore_n (lv' := [(1, .int 0), (0, .ref (ad v0))]) hx hb dd_RE_readItems_18 rfl hl (by decide) rfl (fun ls hl => ?_)
  refine lv_iconst (v := 0) hx hb dd_RE_readItems_19 (by decide) ?_
  refine lv_istore_n (lv' := [(2, .int 0), (1, .int 0), (0, .ref (ad v0))]) hx hb dd_RE_readItems_20 rfl hl (by decide) rfl (fun ls hl => ?_)
  exact ww_RE_readItems_21 C0 hap  FU x_5 v0 0 0 ho_v0 hf _ _ _ hP hS (lv_sub hl [2, 1, 0] rfl)
theorem cc_RE_readItems {l : Launch} {E : Ev} {A : Nat → Prop} {ad : Nat → Nat} (hap : Ap ad ixC A) {x x' : St} {v0 : Nat} {r : Int32} (ho_v0 : isO ixC v0 3) (hf : ff_RE_readItems x v0 = some (r, x')) : Met l yy_RE_readItems (Cond.code yy_RE_readItems bb_RE_readItems 3 (some .int) :: gtb) rm_RE_readItems (va_Pc [.ref (ad v0)] (PB E A ad ixC x)) (QX E ad ixC A (some (.int r)) x') 0 0 A := by
  exact enter (by decide) (Nat.le_of_ble_eq_true rfl) (fun p e s m below meth c ls C0 hP hS hl => ww_RE_readItems C0 hap ho_v0 hf hP hS hl)
