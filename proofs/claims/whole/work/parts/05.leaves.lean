section Rows5
variable {p : Program} {l : Launch} {e : Env} {R : Room} {s : State} {m : MethodId} {args : Array Value} {below : List Frame} {meth : Method} {c : Code} {H : Heap} {locs : List Loc} {cells slots : Nat} {Q : State → Prop}
variable {cc : ByteArray} {pc : Nat} {ls : Array Slot} {rest : List Value} {ad : Nat → Nat}
theorem rqSn {k : Fin 4} {i nL' : Nat} {o : Option Nat} {lv lv' : List (Nat × Value)} (hexec : p.tables.exec = Jvm.exec) (hb : c.code = cc) (hdg : decode cc pc = .ok (.astore_n k, 1)) (hi : (k : Nat) = i) (h : lv_has ls nL' lv) (hn : i < nL') (hl : (i, va_re ad o) :: lv.filter (fun q => !(q.1 == i) && !(q.1 + 1 == i && q.2.category == 2)) = lv')
    (kk : ∀ ls' : Array Slot, lv_has ls' nL' lv' → W p l e R s m args below meth c H locs cells slots Q (F0 m (pc + 1) ls' rest)) : W p l e R s m args below meth c H locs cells slots Q (F0 m pc ls (va_re ad o :: rest)) := by
  cases o with
  | none => exact lv_astore_nN hexec hb hdg hi h hn hl kk
  | some q => exact lv_astore_n hexec hb hdg hi h hn hl kk
theorem cat_re (ad : Nat → Nat) (o : Option Nat) : (va_re ad o).category = 1 := by cases o <;> rfl
end Rows5
abbrev rm_LE_has : Room := { frames := 0, cells := 0, slots := 0, locals := 0 }
theorem dd_LE_has_0 : decode bb_LE_has 0 = .ok (.iload_n 1, 1) := by decide +kernel
theorem dd_LE_has_1 : decode bb_LE_has 1 = .ok (.ifCond .lt 15, 3) := by decide +kernel
theorem dd_LE_has_4 : decode bb_LE_has 4 = .ok (.iload_n 1, 1) := by decide +kernel
theorem dd_LE_has_5 : decode bb_LE_has 5 = .ok (.aload_n 0, 1) := by decide +kernel
theorem dd_LE_has_6 : decode bb_LE_has 6 = .ok (.getfield 28, 3) := by decide +kernel
theorem dd_LE_has_9 : decode bb_LE_has 9 = .ok (.if_icmp .ge 7, 3) := by decide +kernel
theorem dd_LE_has_12 : decode bb_LE_has 12 = .ok (.iconst 1, 1) := by decide +kernel
theorem dd_LE_has_13 : decode bb_LE_has 13 = .ok (.goto 4, 3) := by decide +kernel
theorem dd_LE_has_16 : decode bb_LE_has 16 = .ok (.iconst 0, 1) := by decide +kernel
theorem dd_LE_has_17 : decode bb_LE_has 17 = .ok (.ireturn, 1) := by decide +kernel
def ff_LE_has  (x : St) (v0 : Nat) (v1 : Int32) : Option (Int32 × St) := (if v1 < 0 then some (0, x) else (if (gi x v0 3) ≤ v1 then some (0, x) else some (1, x)))
set_option maxHeartbeats 4000000 in
set_option maxRecDepth 100000 in
theorem ww_LE_has {p : Program} {l : Launch} {e : Env} {s : State} {m : MethodId} {args : Array Value} {below : List Frame} {meth : Method} {c : Code} {E : Ev} {A : Nat → Prop} {ad : Nat → Nat} {r : Int32} {x' : St} (C0 : Cx E A RLE bb_LE_has 2 (some .boolean) p s m args meth c) (hap : Ap ad ixC A)  {x : St} {v0 : Nat} {v1 : Int32} (ho_v0 : isO ixC v0 1) (hf : ff_LE_has x v0 v1 = some (r, x')) {H : Heap} {locs : List Loc} {ls : Array Slot} (hP : Wd E ad ixC x H) (hS : va_S A s.heap H locs) (hl : lv_has ls 2 [(0, .ref (ad v0)), (1, .int v1)]) : W p l e rm_LE_has s m args below meth c H locs 0 0 (MQ below (QX E ad ixC A (some (.int r)) x') args s 0 0 A) (F0 m 0 ls []) := by
  obtain ⟨hx, hb, hml, hr, hown, hts, hlk, hK⟩ := id C0
  have hf : (if v1 < 0 then some (0, x) else (if (gi x v0 3) ≤ v1 then some (0, x) else some (1, x))) = some (r, x') := hf
  refine lv_iload_n hx hb dd_LE_has_0 rfl (lv_at hl 1 rfl) ?_
  refine lv_if_lt (tgt := 16) hx hb dd_LE_has_1 (by decide) (fun h_1 => ?_) (fun h_1 => ?_)
  · have hf := (if_pos h_1).symm.trans hf
    refine lv_iconst (v := 0) hx hb dd_LE_has_16 (by decide) ?_
    exact rrZ C0 hP hS (by decide) dd_LE_has_17 hf
  · have hf := (if_neg h_1).symm.trans hf
    refine lv_iload_n hx hb dd_LE_has_4 rfl (lv_at hl 1 rfl) ?_
    refine lv_aload_n hx hb dd_LE_has_5 rfl (lv_at hl 0 rfl) ?_
    refine gf_LE_28 C0 hP ho_v0 dd_LE_has_6 ?_
    refine lv_icmp_ge (tgt := 16) hx hb dd_LE_has_9 (by decide) (fun h_2 => ?_) (fun h_2 => ?_)
    · have hf := (if_pos h_2).symm.trans hf
      refine lv_iconst (v := 0) hx hb dd_LE_has_16 (by decide) ?_
      exact rrZ C0 hP hS (by decide) dd_LE_has_17 hf
    · have hf := (if_neg h_2).symm.trans hf
      refine lv_iconst (v := 1) hx hb dd_LE_has_12 (by decide) ?_
      refine lv_goto (tgt := 17) hx hb dd_LE_has_13 (by decide) ?_
      exact rrZ C0 hP hS (by decide) dd_LE_has_17 hf
theorem cc_LE_has {l : Launch} {E : Ev} {A : Nat → Prop} {ad : Nat → Nat} (hap : Ap ad ixC A) {x x' : St} {v0 : Nat} {v1 : Int32} {r : Int32} (ho_v0 : isO ixC v0 1) (hf : ff_LE_has x v0 v1 = some (r, x')) : Met l yy_LE_has (Cond.code yy_LE_has bb_LE_has 2 (some .boolean) :: gtb) rm_LE_has (va_Pc [.ref (ad v0), .int v1] (PB E A ad ixC x)) (QX E ad ixC A (some (.int r)) x') 0 0 A := by
  exact enter (by decide) (Nat.le_of_ble_eq_true rfl) (fun p e s m below meth c ls C0 hP hS hl => ww_LE_has C0 hap ho_v0 hf hP hS hl)
theorem cl_LE_31 {p : Program} {l : Launch} {e : Env} {R : Room} {s : State} {m : MethodId} {args : Array Value} {below : List Frame} {meth : Method} {c : Code} {H : Heap} {locs : List Loc} {cells slots : Nat} {Q : State → Prop} {cc : ByteArray} {pc : Nat} {ls : Array Slot} {rest : List Value} {E : Ev} {A : Nat → Prop} {ad : Nat → Nat} {nL : Nat} {rt : Option FieldType} (C0 : Cx E A RLE cc nL rt p s m args meth c) (hap : Ap ad ixC A) {x x' : St} {v0 : Nat} {v1 : Int32} {r : Int32} (ho_v0 : isO ixC v0 1) (hc : ff_LE_has x v0 v1 = some (r, x')) (hP : Wd E ad ixC x H) (hS : va_S A s.heap H locs) (hR : rm_LE_has.frames + 1 ≤ R.frames ∧ 8 + (2 + 11) + rm_LE_has.locals ≤ R.locals) (hls : ls.size = nL) (hroom : (rest.map fun v => v.category).sum ≤ 8) (hdg : decode cc pc = .ok (.invokevirtual 31, 3)) (hf : cells ≤ R.cells ∧ slots ≤ R.slots) (kk : ∀ H1 locs1, Wd E ad ixC x' H1 → va_S A s.heap H1 locs1 → W p l e R s m args below meth c H1 locs1 cells slots Q (F0 m (pc + 3) ls (.int r :: rest))) : W p l e R s m args below meth c H locs cells slots Q (F0 m pc ls (.int v1 :: .ref (ad v0) :: rest)) :=
  rcV (n := 1) C0 (cc_LE_has hap ho_v0 hc) hP hS ho_v0 vcl_1 (by decide) gw_code_LE_has gw_m_LE_31 gw_inst_LE_has gw_sel_LE_has gw_ini_LE rfl rfl (by decide +kernel) rfl hR hls rfl hroom hdg hf (fun H1 locs1 a _ _ b => kk H1 locs1 a b)
abbrev rm_LE_at : Room := { frames := 1, cells := 0, slots := 0, locals := 21 }
theorem dd_LE_at_0 : decode bb_LE_at 0 = .ok (.aload_n 0, 1) := by decide +kernel
theorem dd_LE_at_1 : decode bb_LE_at 1 = .ok (.iload_n 1, 1) := by decide +kernel
theorem dd_LE_at_2 : decode bb_LE_at 2 = .ok (.invokevirtual 31, 3) := by decide +kernel
theorem dd_LE_at_5 : decode bb_LE_at 5 = .ok (.ifCond .eq 15, 3) := by decide +kernel
theorem dd_LE_at_8 : decode bb_LE_at 8 = .ok (.iload_n 2, 1) := by decide +kernel
theorem dd_LE_at_9 : decode bb_LE_at 9 = .ok (.ifCond .lt 11, 3) := by decide +kernel
theorem dd_LE_at_12 : decode bb_LE_at 12 = .ok (.iload_n 2, 1) := by decide +kernel
theorem dd_LE_at_13 : decode bb_LE_at 13 = .ok (.aload_n 0, 1) := by decide +kernel
theorem dd_LE_at_14 : decode bb_LE_at 14 = .ok (.getfield 21, 3) := by decide +kernel
theorem dd_LE_at_17 : decode bb_LE_at 17 = .ok (.if_icmp .lt 5, 3) := by decide +kernel
theorem dd_LE_at_20 : decode bb_LE_at 20 = .ok (.iconst (-1), 1) := by decide +kernel
theorem dd_LE_at_21 : decode bb_LE_at 21 = .ok (.ireturn, 1) := by decide +kernel
theorem dd_LE_at_22 : decode bb_LE_at 22 = .ok (.aload_n 0, 1) := by decide +kernel
theorem dd_LE_at_23 : decode bb_LE_at 23 = .ok (.getfield 24, 3) := by decide +kernel
theorem dd_LE_at_26 : decode bb_LE_at 26 = .ok (.iload_n 1, 1) := by decide +kernel
theorem dd_LE_at_27 : decode bb_LE_at 27 = .ok (.aload_n 0, 1) := by decide +kernel
theorem dd_LE_at_28 : decode bb_LE_at 28 = .ok (.getfield 21, 3) := by decide +kernel
theorem dd_LE_at_31 : decode bb_LE_at 31 = .ok (.imul, 1) := by decide +kernel
theorem dd_LE_at_32 : decode bb_LE_at 32 = .ok (.iload_n 2, 1) := by decide +kernel
theorem dd_LE_at_33 : decode bb_LE_at 33 = .ok (.iadd, 1) := by decide +kernel
theorem dd_LE_at_34 : decode bb_LE_at 34 = .ok (.iaload, 1) := by decide +kernel
theorem dd_LE_at_35 : decode bb_LE_at 35 = .ok (.ireturn, 1) := by decide +kernel
def ff_LE_at  (x : St) (v0 : Nat) (v1 : Int32) (v2 : Int32) : Option (Int32 × St) := bnd (ff_LE_has x v0 v1) (fun r_1 x_2 => (if r_1 = 0 then some ((-1), x_2) else (if v2 < 0 then some ((-1), x_2) else (if v2 < (gi x_2 v0 1) then (if ixb ((v1 * (gi x_2 v0 1)) + v2) (ln (rf v0 2)) = true then some (gi x_2 (rf v0 2) (ix ((v1 * (gi x_2 v0 1)) + v2)), x_2) else none) else some ((-1), x_2)))))
set_option maxHeartbeats 4000000 in
set_option maxRecDepth 100000 in
theorem ww_LE_at {p : Program} {l : Launch} {e : Env} {s : State} {m : MethodId} {args : Array Value} {below : List Frame} {meth : Method} {c : Code} {E : Ev} {A : Nat → Prop} {ad : Nat → Nat} {r : Int32} {x' : St} (C0 : Cx E A RLE bb_LE_at 3 (some .int) p s m args meth c) (hap : Ap ad ixC A)  {x : St} {v0 : Nat} {v1 : Int32} {v2 : Int32} (ho_v0 : isO ixC v0 1) (hf : ff_LE_at x v0 v1 v2 = some (r, x')) {H : Heap} {locs : List Loc} {ls : Array Slot} (hP : Wd E ad ixC x H) (hS : va_S A s.heap H locs) (hl : lv_has ls 3 [(0, .ref (ad v0)), (1, .int v1), (2, .int v2)]) : W p l e rm_LE_at s m args below meth c H locs 0 0 (MQ below (QX E ad ixC A (some (.int r)) x') args s 0 0 A) (F0 m 0 ls []) := by
  obtain ⟨hx, hb, hml, hr, hown, hts, hlk, hK⟩ := id C0
  have hf : bnd (ff_LE_has x v0 v1) (fun r_1 x_2 => (if r_1 = 0 then some ((-1), x_2) else (if v2 < 0 then some ((-1), x_2) else (if v2 < (gi x_2 v0 1) then (if ixb ((v1 * (gi x_2 v0 1)) + v2) (ln (rf v0 2)) = true then some (gi x_2 (rf v0 2) (ix ((v1 * (gi x_2 v0 1)) + v2)), x_2) else none) else some ((-1), x_2))))) = some (r, x') := hf
  refine lv_aload_n hx hb dd_LE_at_0 rfl (lv_at hl 0 rfl) ?_
  refine lv_iload_n hx hb dd_LE_at_1 rfl (lv_at hl 1 rfl) ?_
  obtain ⟨r_1, x_2, c_3, hf⟩ := of_bnd hf
  refine cl_LE_31 C0 hap ho_v0 c_3 hP hS ⟨Nat.le_of_ble_eq_true rfl, Nat.le_of_ble_eq_true rfl⟩ hl.1 (Nat.le_of_ble_eq_true rfl) dd_LE_at_2 ⟨Nat.le_refl _, Nat.le_refl _⟩ (fun H locs hP hS => ?_)
  refine lv_if_eq (tgt := 20) hx hb dd_LE_at_5 (by decide) (fun h_4 => ?_) (fun h_4 => ?_)
  · have hf := (if_pos h_4).symm.trans hf
    refine lv_iconst (v := -1) hx hb dd_LE_at_20 (by decide) ?_
    exact rrI C0 hP hS dd_LE_at_21 hf
  · have hf := (if_neg h_4).symm.trans hf
    refine lv_iload_n hx hb dd_LE_at_8 rfl (lv_at hl 2 rfl) ?_
    refine lv_if_lt (tgt := 20) hx hb dd_LE_at_9 (by decide) (fun h_5 => ?_) (fun h_5 => ?_)
    · have hf := (if_pos h_5).symm.trans hf
      refine lv_iconst (v := -1) hx hb dd_LE_at_20 (by decide) ?_
      exact rrI C0 hP hS dd_LE_at_21 hf
    · have hf := (if_neg h_5).symm.trans hf
      refine lv_iload_n hx hb dd_LE_at_12 rfl (lv_at hl 2 rfl) ?_
      refine lv_aload_n hx hb dd_LE_at_13 rfl (lv_at hl 0 rfl) ?_
      refine gf_LE_21 C0 hP ho_v0 dd_LE_at_14 ?_
      refine lv_icmp_lt (tgt := 22) hx hb dd_LE_at_17 (by decide) (fun h_6 => ?_) (fun h_6 => ?_)
      · have hf := (if_pos h_6).symm.trans hf
        refine lv_aload_n hx hb dd_LE_at_22 rfl (lv_at hl 0 rfl) ?_
        refine gf_LE_24 C0 hP ho_v0 dd_LE_at_23 ?_
        refine lv_iload_n hx hb dd_LE_at_26 rfl (lv_at hl 1 rfl) ?_
        refine lv_aload_n hx hb dd_LE_at_27 rfl (lv_at hl 0 rfl) ?_
        refine gf_LE_21 C0 hP ho_v0 dd_LE_at_28 ?_
        refine lv_imul hx hb dd_LE_at_31 ?_
        refine lv_iload_n hx hb dd_LE_at_32 rfl (lv_at hl 2 rfl) ?_
        refine lv_iadd hx hb dd_LE_at_33 ?_
        obtain ⟨h_7, hf⟩ := of_ifb hf
        refine raI C0 hP (tp_1_2 ho_v0) h_7 dd_LE_at_34 ?_
        exact rrI C0 hP hS dd_LE_at_35 hf
      · have hf := (if_neg h_6).symm.trans hf
        refine lv_iconst (v := -1) hx hb dd_LE_at_20 (by decide) ?_
        exact rrI C0 hP hS dd_LE_at_21 hf
theorem cc_LE_at {l : Launch} {E : Ev} {A : Nat → Prop} {ad : Nat → Nat} (hap : Ap ad ixC A) {x x' : St} {v0 : Nat} {v1 : Int32} {v2 : Int32} {r : Int32} (ho_v0 : isO ixC v0 1) (hf : ff_LE_at x v0 v1 v2 = some (r, x')) : Met l yy_LE_at (Cond.code yy_LE_at bb_LE_at 3 (some .int) :: gtb) rm_LE_at (va_Pc [.ref (ad v0), .int v1, .int v2] (PB E A ad ixC x)) (QX E ad ixC A (some (.int r)) x') 0 0 A := by
  exact enter (by decide) (Nat.le_of_ble_eq_true rfl) (fun p e s m below meth c ls C0 hP hS hl => ww_LE_at C0 hap ho_v0 hf hP hS hl)
abbrev rm_AR_fillI : Room := { frames := 0, cells := 0, slots := 0, locals := 0 }
theorem dd_AR_fillI_0 : decode bb_AR_fillI 0 = .ok (.iconst 0, 1) := by decide +kernel
theorem dd_AR_fillI_1 : decode bb_AR_fillI 1 = .ok (.istore_n 2, 1) := by decide +kernel
theorem dd_AR_fillI_2 : decode bb_AR_fillI 2 = .ok (.aload_n 0, 1) := by decide +kernel
theorem dd_AR_fillI_3 : decode bb_AR_fillI 3 = .ok (.arraylength, 1) := by decide +kernel
theorem dd_AR_fillI_4 : decode bb_AR_fillI 4 = .ok (.istore_n 3, 1) := by decide +kernel
theorem dd_AR_fillI_5 : decode bb_AR_fillI 5 = .ok (.iload_n 2, 1) := by decide +kernel
theorem dd_AR_fillI_6 : decode bb_AR_fillI 6 = .ok (.iload_n 3, 1) := by decide +kernel
theorem dd_AR_fillI_7 : decode bb_AR_fillI 7 = .ok (.if_icmp .ge 13, 3) := by decide +kernel
theorem dd_AR_fillI_10 : decode bb_AR_fillI 10 = .ok (.aload_n 0, 1) := by decide +kernel
theorem dd_AR_fillI_11 : decode bb_AR_fillI 11 = .ok (.iload_n 2, 1) := by decide +kernel
theorem dd_AR_fillI_12 : decode bb_AR_fillI 12 = .ok (.iload_n 1, 1) := by decide +kernel
theorem dd_AR_fillI_13 : decode bb_AR_fillI 13 = .ok (.iastore, 1) := by decide +kernel
theorem dd_AR_fillI_14 : decode bb_AR_fillI 14 = .ok (.iinc 2 1, 3) := by decide +kernel
theorem dd_AR_fillI_17 : decode bb_AR_fillI 17 = .ok (.goto (-12), 3) := by decide +kernel
theorem dd_AR_fillI_20 : decode bb_AR_fillI 20 = .ok (.return_, 1) := by decide +kernel
def ff_AR_fillI_5  : Nat → St → Nat → Int32 → Int32 → Int32 → Option (Unit × St)
  | 0, _, _, _, _, _ => none
  | n + 1, x, v0, v1, v2, v3 => (if v3 ≤ v2 then some ((), x) else (if ixb v2 (ln v0) = true then st (si x v0 (ix v2) v1) (fun x_3 => ff_AR_fillI_5 n x_3 v0 v1 (v2 + 1) v3) else none))
def ff_AR_fillI  (x : St) (v0 : Nat) (v1 : Int32) : Option (Unit × St) := ff_AR_fillI_5 FU x v0 v1 0 (Int32.ofNat (ln v0))
set_option maxHeartbeats 4000000 in
set_option maxRecDepth 100000 in
theorem ww_AR_fillI_5 {p : Program} {l : Launch} {e : Env} {s : State} {m : MethodId} {args : Array Value} {below : List Frame} {meth : Method} {c : Code} {E : Ev} {A : Nat → Prop} {ad : Nat → Nat} {r : Unit} {x' : St} (C0 : Cx E A RAR bb_AR_fillI 4 (none) p s m args meth c) (hap : Ap ad ixC A)  : ∀ (n : Nat), ∀ (x : St) (v0 : Nat) (v1 : Int32) (v2 : Int32) (v3 : Int32), (isO ixC v0 20) → ff_AR_fillI_5 n x v0 v1 v2 v3 = some (r, x') → ∀ (H : Heap) (locs : List Loc) (ls : Array Slot), Wd E ad ixC x H → va_S A s.heap H locs → lv_has ls 4 [(0, .ref (ad v0)), (1, .int v1), (2, .int v2), (3, .int v3)] → W p l e rm_AR_fillI s m args below meth c H locs 0 0 (MQ below (QX E ad ixC A (none) x') args s 0 0 A) (F0 m 5 ls []) := by
  obtain ⟨hx, hb, hml, hr, hown, hts, hlk, hK⟩ := id C0
  intro n
  induction n with
  | zero => intro x v0 v1 v2 v3 ho_v0 hf; exact of_no hf
  | succ n ih =>
    intro x v0 v1 v2 v3 ho_v0 hf H locs ls hP hS hl
    have hf : (if v3 ≤ v2 then some ((), x) else (if ixb v2 (ln v0) = true then st (si x v0 (ix v2) v1) (fun x_3 => ff_AR_fillI_5 n x_3 v0 v1 (v2 + 1) v3) else none)) = some (r, x') := hf
    refine lv_iload_n hx hb dd_AR_fillI_5 rfl (lv_at hl 2 rfl) ?_
    refine lv_iload_n hx hb dd_AR_fillI_6 rfl (lv_at hl 3 rfl) ?_
    refine lv_icmp_ge (tgt := 20) hx hb dd_AR_fillI_7 (by decide) (fun h_1 => ?_) (fun h_1 => ?_)
    · have hf := (if_pos h_1).symm.trans hf
      exact rrV C0 hP hS dd_AR_fillI_20 hf
    · have hf := (if_neg h_1).symm.trans hf
      refine lv_aload_n hx hb dd_AR_fillI_10 rfl (lv_at hl 0 rfl) ?_
      refine lv_iload_n hx hb dd_AR_fillI_11 rfl (lv_at hl 2 rfl) ?_
      refine lv_iload_n hx hb dd_AR_fillI_12 rfl (lv_at hl 1 rfl) ?_
      obtain ⟨h_2, hf⟩ := of_ifb hf
      obtain ⟨x_3, hx_3, hf⟩ := of_st hf
      refine sI C0 hap hP hS ho_v0 h_2 hx_3 dd_AR_fillI_13 (fun H locs hP hS => ?_)
      refine lv_iinc (v := v2 + 1) (lv' := [(2, .int (v2 + 1)), (0, .ref (ad v0)), (1, .int v1), (3, .int v3)]) hx hb dd_AR_fillI_14 hl (k := 2) rfl rfl (by decide) rfl (fun ls hl => ?_)
      refine lv_goto (tgt := 5) hx hb dd_AR_fillI_17 (by decide) ?_
      exact ih x_3 v0 v1 (v2 + 1) v3 ho_v0 hf _ _ _ hP hS (lv_sub hl [1, 2, 0, 3] rfl)
set_option maxHeartbeats 4000000 in
set_option maxRecDepth 100000 in
theorem ww_AR_fillI {p : Program} {l : Launch} {e : Env} {s : State} {m : MethodId} {args : Array Value} {below : List Frame} {meth : Method} {c : Code} {E : Ev} {A : Nat → Prop} {ad : Nat → Nat} {r : Unit} {x' : St} (C0 : Cx E A RAR bb_AR_fillI 4 (none) p s m args meth c) (hap : Ap ad ixC A)  {x : St} {v0 : Nat} {v1 : Int32} (ho_v0 : isO ixC v0 20) (hf : ff_AR_fillI x v0 v1 = some (r, x')) {H : Heap} {locs : List Loc} {ls : Array Slot} (hP : Wd E ad ixC x H) (hS : va_S A s.heap H locs) (hl : lv_has ls 4 [(0, .ref (ad v0)), (1, .int v1)]) : W p l e rm_AR_fillI s m args below meth c H locs 0 0 (MQ below (QX E ad ixC A (none) x') args s 0 0 A) (F0 m 0 ls []) := by
  obtain ⟨hx, hb, hml, hr, hown, hts, hlk, hK⟩ := id C0
  have hf : ff_AR_fillI_5 FU x v0 v1 0 (Int32.ofNat (ln v0)) = some (r, x') := hf
  refine lv_iconst (v := 0) hx hb dd_AR_fillI_0 (by decide) ?_
  refine lv_istore_n (lv' := [(2, .int 0), (0, .ref (ad v0)), (1, .int v1)]) hx hb dd_AR_fillI_1 rfl hl (by decide) rfl (fun ls hl => ?_)
  refine lv_aload_n hx hb dd_AR_fillI_2 rfl (lv_at hl 1 rfl) ?_
  refine rlen C0 hP ho_v0 dd_AR_fillI_3 ?_
  refine lv_istore_n (lv' := [(3, .int (Int32.ofNat (ln v0))), (2, .int 0), (0, .ref (ad v0)), (1, .int v1)]) hx hb dd_AR_fillI_4 rfl hl (by decide) rfl (fun ls hl => ?_)
  exact ww_AR_fillI_5 C0 hap  FU x v0 v1 0 (Int32.ofNat (ln v0)) ho_v0 hf _ _ _ hP hS (lv_sub hl [2, 3, 1, 0] rfl)
theorem cc_AR_fillI {l : Launch} {E : Ev} {A : Nat → Prop} {ad : Nat → Nat} (hap : Ap ad ixC A) {x x' : St} {v0 : Nat} {v1 : Int32} {r : Unit} (ho_v0 : isO ixC v0 20) (hf : ff_AR_fillI x v0 v1 = some (r, x')) : Met l yy_AR_fillI (Cond.code yy_AR_fillI bb_AR_fillI 4 (none) :: gtb) rm_AR_fillI (va_Pc [.ref (ad v0), .int v1] (PB E A ad ixC x)) (QX E ad ixC A (none) x') 0 0 A := by
  exact enter (by decide) (Nat.le_of_ble_eq_true rfl) (fun p e s m below meth c ls C0 hP hS hl => ww_AR_fillI C0 hap ho_v0 hf hP hS hl)
abbrev rm_KI_mournerStep : Room := { frames := 0, cells := 0, slots := 0, locals := 0 }
theorem dd_KI_mournerStep_0 : decode bb_KI_mournerStep 0 = .ok (.iload_n 0, 1) := by decide +kernel
theorem dd_KI_mournerStep_1 : decode bb_KI_mournerStep 1 = .ok (.iconst 1, 1) := by decide +kernel
theorem dd_KI_mournerStep_2 : decode bb_KI_mournerStep 2 = .ok (.if_icmp .le 9, 3) := by decide +kernel
theorem dd_KI_mournerStep_5 : decode bb_KI_mournerStep 5 = .ok (.iload_n 0, 1) := by decide +kernel
theorem dd_KI_mournerStep_6 : decode bb_KI_mournerStep 6 = .ok (.iconst 1, 1) := by decide +kernel
theorem dd_KI_mournerStep_7 : decode bb_KI_mournerStep 7 = .ok (.isub, 1) := by decide +kernel
theorem dd_KI_mournerStep_8 : decode bb_KI_mournerStep 8 = .ok (.goto 4, 3) := by decide +kernel
theorem dd_KI_mournerStep_11 : decode bb_KI_mournerStep 11 = .ok (.iconst 0, 1) := by decide +kernel
theorem dd_KI_mournerStep_12 : decode bb_KI_mournerStep 12 = .ok (.ireturn, 1) := by decide +kernel
def ff_KI_mournerStep  (x : St) (v0 : Int32) : Option (Int32 × St) := (if v0 ≤ 1 then some (0, x) else some (v0 - 1, x))
set_option maxHeartbeats 4000000 in
set_option maxRecDepth 100000 in
theorem ww_KI_mournerStep {p : Program} {l : Launch} {e : Env} {s : State} {m : MethodId} {args : Array Value} {below : List Frame} {meth : Method} {c : Code} {E : Ev} {A : Nat → Prop} {ad : Nat → Nat} {r : Int32} {x' : St} (C0 : Cx E A RKI bb_KI_mournerStep 1 (some .int) p s m args meth c) (hap : Ap ad ixC A)  {x : St} {v0 : Int32}  (hf : ff_KI_mournerStep x v0 = some (r, x')) {H : Heap} {locs : List Loc} {ls : Array Slot} (hP : Wd E ad ixC x H) (hS : va_S A s.heap H locs) (hl : lv_has ls 1 [(0, .int v0)]) : W p l e rm_KI_mournerStep s m args below meth c H locs 0 0 (MQ below (QX E ad ixC A (some (.int r)) x') args s 0 0 A) (F0 m 0 ls []) := by
  obtain ⟨hx, hb, hml, hr, hown, hts, hlk, hK⟩ := id C0
  have hf : (if v0 ≤ 1 then some (0, x) else some (v0 - 1, x)) = some (r, x') := hf
  refine lv_iload_n hx hb dd_KI_mournerStep_0 rfl (lv_at hl 0 rfl) ?_
  refine lv_iconst (v := 1) hx hb dd_KI_mournerStep_1 (by decide) ?_
  refine lv_icmp_le (tgt := 11) hx hb dd_KI_mournerStep_2 (by decide) (fun h_1 => ?_) (fun h_1 => ?_)
  · have hf := (if_pos h_1).symm.trans hf
    refine lv_iconst (v := 0) hx hb dd_KI_mournerStep_11 (by decide) ?_
    exact rrI C0 hP hS dd_KI_mournerStep_12 hf
  · have hf := (if_neg h_1).symm.trans hf
    refine lv_iload_n hx hb dd_KI_mournerStep_5 rfl (lv_at hl 0 rfl) ?_
    refine lv_iconst (v := 1) hx hb dd_KI_mournerStep_6 (by decide) ?_
    refine lv_isub hx hb dd_KI_mournerStep_7 ?_
    refine lv_goto (tgt := 12) hx hb dd_KI_mournerStep_8 (by decide) ?_
    exact rrI C0 hP hS dd_KI_mournerStep_12 hf
theorem cc_KI_mournerStep {l : Launch} {E : Ev} {A : Nat → Prop} {ad : Nat → Nat} (hap : Ap ad ixC A) {x x' : St} {v0 : Int32} {r : Int32}  (hf : ff_KI_mournerStep x v0 = some (r, x')) : Met l yy_KI_mournerStep (Cond.code yy_KI_mournerStep bb_KI_mournerStep 1 (some .int) :: gtb) rm_KI_mournerStep (va_Pc [.int v0] (PB E A ad ixC x)) (QX E ad ixC A (some (.int r)) x') 0 0 A := by
  exact enter (by decide) (Nat.le_of_ble_eq_true rfl) (fun p e s m below meth c ls C0 hP hS hl => ww_KI_mournerStep C0 hap  hf hP hS hl)
theorem cl_KI_19 {p : Program} {l : Launch} {e : Env} {R : Room} {s : State} {m : MethodId} {args : Array Value} {below : List Frame} {meth : Method} {c : Code} {H : Heap} {locs : List Loc} {cells slots : Nat} {Q : State → Prop} {cc : ByteArray} {pc : Nat} {ls : Array Slot} {rest : List Value} {E : Ev} {A : Nat → Prop} {ad : Nat → Nat} {nL : Nat} {rt : Option FieldType} (C0 : Cx E A RKI cc nL rt p s m args meth c) (hap : Ap ad ixC A) {x x' : St} {v0 : Int32} {r : Int32}  (hc : ff_KI_mournerStep x v0 = some (r, x')) (hP : Wd E ad ixC x H) (hS : va_S A s.heap H locs) (hR : rm_KI_mournerStep.frames + 1 ≤ R.frames ∧ 8 + (1 + 11) + rm_KI_mournerStep.locals ≤ R.locals) (hls : ls.size = nL) (hroom : (rest.map fun v => v.category).sum ≤ 8) (hdg : decode cc pc = .ok (.invokestatic 19, 3)) (hf : cells ≤ R.cells ∧ slots ≤ R.slots) (kk : ∀ H1 locs1, Wd E ad ixC x' H1 → va_S A s.heap H1 locs1 → W p l e R s m args below meth c H1 locs1 cells slots Q (F0 m (pc + 3) ls (.int r :: rest))) : W p l e R s m args below meth c H locs cells slots Q (F0 m pc ls (.int v0 :: rest)) :=
  rcS (n := 1) C0 (cc_KI_mournerStep hap  hc) hP hS gw_code_KI_mournerStep gw_m_KI_19 gw_static_KI_mournerStep gw_ini_KI rfl rfl (by decide +kernel) rfl hR hls rfl hroom hdg hf (fun H1 locs1 a _ _ b => kk H1 locs1 a b)
abbrev rm_KI_widowStep : Room := { frames := 1, cells := 0, slots := 0, locals := 20 }
theorem dd_KI_widowStep_0 : decode bb_KI_widowStep 0 = .ok (.iload_n 1, 1) := by decide +kernel
theorem dd_KI_widowStep_1 : decode bb_KI_widowStep 1 = .ok (.bipush 7, 2) := by decide +kernel
theorem dd_KI_widowStep_3 : decode bb_KI_widowStep 3 = .ok (.irem, 1) := by decide +kernel
theorem dd_KI_widowStep_4 : decode bb_KI_widowStep 4 = .ok (.ifCond .ne 7, 3) := by decide +kernel
theorem dd_KI_widowStep_7 : decode bb_KI_widowStep 7 = .ok (.iload_n 0, 1) := by decide +kernel
theorem dd_KI_widowStep_8 : decode bb_KI_widowStep 8 = .ok (.goto 7, 3) := by decide +kernel
theorem dd_KI_widowStep_11 : decode bb_KI_widowStep 11 = .ok (.iload_n 0, 1) := by decide +kernel
theorem dd_KI_widowStep_12 : decode bb_KI_widowStep 12 = .ok (.invokestatic 19, 3) := by decide +kernel
theorem dd_KI_widowStep_15 : decode bb_KI_widowStep 15 = .ok (.ireturn, 1) := by decide +kernel
def ff_KI_widowStep  (x : St) (v0 : Int32) (v1 : Int32) : Option (Int32 × St) := (if (v1 - v1 / 7 * 7) = 0 then some (v0, x) else bnd (ff_KI_mournerStep x v0) (fun r_2 x_3 => some (r_2, x_3)))
set_option maxHeartbeats 4000000 in
set_option maxRecDepth 100000 in
theorem ww_KI_widowStep {p : Program} {l : Launch} {e : Env} {s : State} {m : MethodId} {args : Array Value} {below : List Frame} {meth : Method} {c : Code} {E : Ev} {A : Nat → Prop} {ad : Nat → Nat} {r : Int32} {x' : St} (C0 : Cx E A RKI bb_KI_widowStep 2 (some .int) p s m args meth c) (hap : Ap ad ixC A)  {x : St} {v0 : Int32} {v1 : Int32}  (hf : ff_KI_widowStep x v0 v1 = some (r, x')) {H : Heap} {locs : List Loc} {ls : Array Slot} (hP : Wd E ad ixC x H) (hS : va_S A s.heap H locs) (hl : lv_has ls 2 [(0, .int v0), (1, .int v1)]) : W p l e rm_KI_widowStep s m args below meth c H locs 0 0 (MQ below (QX E ad ixC A (some (.int r)) x') args s 0 0 A) (F0 m 0 ls []) := by
  obtain ⟨hx, hb, hml, hr, hown, hts, hlk, hK⟩ := id C0
  have hf : (if (v1 - v1 / 7 * 7) = 0 then some (v0, x) else bnd (ff_KI_mournerStep x v0) (fun r_2 x_3 => some (r_2, x_3))) = some (r, x') := hf
  refine lv_iload_n hx hb dd_KI_widowStep_0 rfl (lv_at hl 1 rfl) ?_
  refine lv_bipush (v := 7) hx hb dd_KI_widowStep_1 (by decide) ?_
  refine lv_irem hx hb dd_KI_widowStep_3 (by decide) ?_
  refine lv_if_ne (tgt := 11) hx hb dd_KI_widowStep_4 (by decide) (fun h_1 => ?_) (fun h_1 => ?_)
  · have hf := (if_neg h_1).symm.trans hf
    refine lv_iload_n hx hb dd_KI_widowStep_11 rfl (lv_at hl 0 rfl) ?_
    obtain ⟨r_2, x_3, c_4, hf⟩ := of_bnd hf
    refine cl_KI_19 C0 hap  c_4 hP hS ⟨Nat.le_of_ble_eq_true rfl, Nat.le_of_ble_eq_true rfl⟩ hl.1 (Nat.le_of_ble_eq_true rfl) dd_KI_widowStep_12 ⟨Nat.le_refl _, Nat.le_refl _⟩ (fun H locs hP hS => ?_)
    exact rrI C0 hP hS dd_KI_widowStep_15 hf
  · have hf := (if_pos h_1).symm.trans hf
    refine lv_iload_n hx hb dd_KI_widowStep_7 rfl (lv_at hl 0 rfl) ?_
    refine lv_goto (tgt := 15) hx hb dd_KI_widowStep_8 (by decide) ?_
    exact rrI C0 hP hS dd_KI_widowStep_15 hf
theorem cc_KI_widowStep {l : Launch} {E : Ev} {A : Nat → Prop} {ad : Nat → Nat} (hap : Ap ad ixC A) {x x' : St} {v0 : Int32} {v1 : Int32} {r : Int32}  (hf : ff_KI_widowStep x v0 v1 = some (r, x')) : Met l yy_KI_widowStep (Cond.code yy_KI_widowStep bb_KI_widowStep 2 (some .int) :: gtb) rm_KI_widowStep (va_Pc [.int v0, .int v1] (PB E A ad ixC x)) (QX E ad ixC A (some (.int r)) x') 0 0 A := by
  exact enter (by decide) (Nat.le_of_ble_eq_true rfl) (fun p e s m below meth c ls C0 hP hS hl => ww_KI_widowStep C0 hap  hf hP hS hl)
abbrev rm_KI_heirStep : Room := { frames := 0, cells := 0, slots := 0, locals := 0 }
theorem dd_KI_heirStep_0 : decode bb_KI_heirStep 0 = .ok (.iload_n 0, 1) := by decide +kernel
theorem dd_KI_heirStep_1 : decode bb_KI_heirStep 1 = .ok (.iconst 3, 1) := by decide +kernel
theorem dd_KI_heirStep_2 : decode bb_KI_heirStep 2 = .ok (.if_icmp .le 9, 3) := by decide +kernel
theorem dd_KI_heirStep_5 : decode bb_KI_heirStep 5 = .ok (.iload_n 0, 1) := by decide +kernel
theorem dd_KI_heirStep_6 : decode bb_KI_heirStep 6 = .ok (.iconst 3, 1) := by decide +kernel
theorem dd_KI_heirStep_7 : decode bb_KI_heirStep 7 = .ok (.isub, 1) := by decide +kernel
theorem dd_KI_heirStep_8 : decode bb_KI_heirStep 8 = .ok (.goto 4, 3) := by decide +kernel
theorem dd_KI_heirStep_11 : decode bb_KI_heirStep 11 = .ok (.iconst 0, 1) := by decide +kernel
theorem dd_KI_heirStep_12 : decode bb_KI_heirStep 12 = .ok (.ireturn, 1) := by decide +kernel
def ff_KI_heirStep  (x : St) (v0 : Int32) : Option (Int32 × St) := (if v0 ≤ 3 then some (0, x) else some (v0 - 3, x))
set_option maxHeartbeats 4000000 in
set_option maxRecDepth 100000 in
theorem ww_KI_heirStep {p : Program} {l : Launch} {e : Env} {s : State} {m : MethodId} {args : Array Value} {below : List Frame} {meth : Method} {c : Code} {E : Ev} {A : Nat → Prop} {ad : Nat → Nat} {r : Int32} {x' : St} (C0 : Cx E A RKI bb_KI_heirStep 1 (some .int) p s m args meth c) (hap : Ap ad ixC A)  {x : St} {v0 : Int32}  (hf : ff_KI_heirStep x v0 = some (r, x')) {H : Heap} {locs : List Loc} {ls : Array Slot} (hP : Wd E ad ixC x H) (hS : va_S A s.heap H locs) (hl : lv_has ls 1 [(0, .int v0)]) : W p l e rm_KI_heirStep s m args below meth c H locs 0 0 (MQ below (QX E ad ixC A (some (.int r)) x') args s 0 0 A) (F0 m 0 ls []) := by
  obtain ⟨hx, hb, hml, hr, hown, hts, hlk, hK⟩ := id C0
  have hf : (if v0 ≤ 3 then some (0, x) else some (v0 - 3, x)) = some (r, x') := hf
  refine lv_iload_n hx hb dd_KI_heirStep_0 rfl (lv_at hl 0 rfl) ?_
  refine lv_iconst (v := 3) hx hb dd_KI_heirStep_1 (by decide) ?_
  refine lv_icmp_le (tgt := 11) hx hb dd_KI_heirStep_2 (by decide) (fun h_1 => ?_) (fun h_1 => ?_)
  · have hf := (if_pos h_1).symm.trans hf
    refine lv_iconst (v := 0) hx hb dd_KI_heirStep_11 (by decide) ?_
    exact rrI C0 hP hS dd_KI_heirStep_12 hf
  · have hf := (if_neg h_1).symm.trans hf
    refine lv_iload_n hx hb dd_KI_heirStep_5 rfl (lv_at hl 0 rfl) ?_
    refine lv_iconst (v := 3) hx hb dd_KI_heirStep_6 (by decide) ?_
    refine lv_isub hx hb dd_KI_heirStep_7 ?_
    refine lv_goto (tgt := 12) hx hb dd_KI_heirStep_8 (by decide) ?_
    exact rrI C0 hP hS dd_KI_heirStep_12 hf
theorem cc_KI_heirStep {l : Launch} {E : Ev} {A : Nat → Prop} {ad : Nat → Nat} (hap : Ap ad ixC A) {x x' : St} {v0 : Int32} {r : Int32}  (hf : ff_KI_heirStep x v0 = some (r, x')) : Met l yy_KI_heirStep (Cond.code yy_KI_heirStep bb_KI_heirStep 1 (some .int) :: gtb) rm_KI_heirStep (va_Pc [.int v0] (PB E A ad ixC x)) (QX E ad ixC A (some (.int r)) x') 0 0 A := by
  exact enter (by decide) (Nat.le_of_ble_eq_true rfl) (fun p e s m below meth c ls C0 hP hS hl => ww_KI_heirStep C0 hap  hf hP hS hl)
theorem cl_KI_9 {p : Program} {l : Launch} {e : Env} {R : Room} {s : State} {m : MethodId} {args : Array Value} {below : List Frame} {meth : Method} {c : Code} {H : Heap} {locs : List Loc} {cells slots : Nat} {Q : State → Prop} {cc : ByteArray} {pc : Nat} {ls : Array Slot} {rest : List Value} {E : Ev} {A : Nat → Prop} {ad : Nat → Nat} {nL : Nat} {rt : Option FieldType} (C0 : Cx E A RKI cc nL rt p s m args meth c) (hap : Ap ad ixC A) {x x' : St} {v0 : Int32} {v1 : Int32} {r : Int32}  (hc : ff_KI_widowStep x v0 v1 = some (r, x')) (hP : Wd E ad ixC x H) (hS : va_S A s.heap H locs) (hR : rm_KI_widowStep.frames + 1 ≤ R.frames ∧ 8 + (2 + 11) + rm_KI_widowStep.locals ≤ R.locals) (hls : ls.size = nL) (hroom : (rest.map fun v => v.category).sum ≤ 8) (hdg : decode cc pc = .ok (.invokestatic 9, 3)) (hf : cells ≤ R.cells ∧ slots ≤ R.slots) (kk : ∀ H1 locs1, Wd E ad ixC x' H1 → va_S A s.heap H1 locs1 → W p l e R s m args below meth c H1 locs1 cells slots Q (F0 m (pc + 3) ls (.int r :: rest))) : W p l e R s m args below meth c H locs cells slots Q (F0 m pc ls (.int v1 :: .int v0 :: rest)) :=
  rcS (n := 2) C0 (cc_KI_widowStep hap  hc) hP hS gw_code_KI_widowStep gw_m_KI_9 gw_static_KI_widowStep gw_ini_KI rfl rfl (by decide +kernel) rfl hR hls rfl hroom hdg hf (fun H1 locs1 a _ _ b => kk H1 locs1 a b)
theorem cl_KI_15 {p : Program} {l : Launch} {e : Env} {R : Room} {s : State} {m : MethodId} {args : Array Value} {below : List Frame} {meth : Method} {c : Code} {H : Heap} {locs : List Loc} {cells slots : Nat} {Q : State → Prop} {cc : ByteArray} {pc : Nat} {ls : Array Slot} {rest : List Value} {E : Ev} {A : Nat → Prop} {ad : Nat → Nat} {nL : Nat} {rt : Option FieldType} (C0 : Cx E A RKI cc nL rt p s m args meth c) (hap : Ap ad ixC A) {x x' : St} {v0 : Int32} {r : Int32}  (hc : ff_KI_heirStep x v0 = some (r, x')) (hP : Wd E ad ixC x H) (hS : va_S A s.heap H locs) (hR : rm_KI_heirStep.frames + 1 ≤ R.frames ∧ 8 + (1 + 11) + rm_KI_heirStep.locals ≤ R.locals) (hls : ls.size = nL) (hroom : (rest.map fun v => v.category).sum ≤ 8) (hdg : decode cc pc = .ok (.invokestatic 15, 3)) (hf : cells ≤ R.cells ∧ slots ≤ R.slots) (kk : ∀ H1 locs1, Wd E ad ixC x' H1 → va_S A s.heap H1 locs1 → W p l e R s m args below meth c H1 locs1 cells slots Q (F0 m (pc + 3) ls (.int r :: rest))) : W p l e R s m args below meth c H locs cells slots Q (F0 m pc ls (.int v0 :: rest)) :=
  rcS (n := 1) C0 (cc_KI_heirStep hap  hc) hP hS gw_code_KI_heirStep gw_m_KI_15 gw_static_KI_heirStep gw_ini_KI rfl rfl (by decide +kernel) rfl hR hls rfl hroom hdg hf (fun H1 locs1 a _ _ b => kk H1 locs1 a b)
abbrev rm_KI_stepOf : Room := { frames := 2, cells := 0, slots := 0, locals := 41 }
theorem dd_KI_stepOf_0 : decode bb_KI_stepOf 0 = .ok (.iload_n 0, 1) := by decide +kernel
theorem dd_KI_stepOf_1 : decode bb_KI_stepOf 1 = .ok (.tableswitch 87 1 5 #[35, 41, 46, 62, 77], 35) := by decide +kernel
theorem dd_KI_stepOf_36 : decode bb_KI_stepOf 36 = .ok (.iload_n 1, 1) := by decide +kernel
theorem dd_KI_stepOf_37 : decode bb_KI_stepOf 37 = .ok (.iload_n 2, 1) := by decide +kernel
theorem dd_KI_stepOf_38 : decode bb_KI_stepOf 38 = .ok (.invokestatic 9, 3) := by decide +kernel
theorem dd_KI_stepOf_41 : decode bb_KI_stepOf 41 = .ok (.ireturn, 1) := by decide +kernel
theorem dd_KI_stepOf_42 : decode bb_KI_stepOf 42 = .ok (.iload_n 1, 1) := by decide +kernel
theorem dd_KI_stepOf_43 : decode bb_KI_stepOf 43 = .ok (.invokestatic 15, 3) := by decide +kernel
theorem dd_KI_stepOf_46 : decode bb_KI_stepOf 46 = .ok (.ireturn, 1) := by decide +kernel
theorem dd_KI_stepOf_47 : decode bb_KI_stepOf 47 = .ok (.iload_n 2, 1) := by decide +kernel
theorem dd_KI_stepOf_48 : decode bb_KI_stepOf 48 = .ok (.bipush 20, 2) := by decide +kernel
theorem dd_KI_stepOf_50 : decode bb_KI_stepOf 50 = .ok (.if_icmp .le 7, 3) := by decide +kernel
theorem dd_KI_stepOf_53 : decode bb_KI_stepOf 53 = .ok (.iconst 0, 1) := by decide +kernel
theorem dd_KI_stepOf_54 : decode bb_KI_stepOf 54 = .ok (.goto 8, 3) := by decide +kernel
theorem dd_KI_stepOf_57 : decode bb_KI_stepOf 57 = .ok (.iload_n 1, 1) := by decide +kernel
theorem dd_KI_stepOf_58 : decode bb_KI_stepOf 58 = .ok (.iload_n 2, 1) := by decide +kernel
theorem dd_KI_stepOf_59 : decode bb_KI_stepOf 59 = .ok (.invokestatic 9, 3) := by decide +kernel
theorem dd_KI_stepOf_62 : decode bb_KI_stepOf 62 = .ok (.ireturn, 1) := by decide +kernel
theorem dd_KI_stepOf_63 : decode bb_KI_stepOf 63 = .ok (.iload_n 1, 1) := by decide +kernel
theorem dd_KI_stepOf_64 : decode bb_KI_stepOf 64 = .ok (.bipush 50, 2) := by decide +kernel
theorem dd_KI_stepOf_66 : decode bb_KI_stepOf 66 = .ok (.if_icmp .le 10, 3) := by decide +kernel
theorem dd_KI_stepOf_69 : decode bb_KI_stepOf 69 = .ok (.iload_n 1, 1) := by decide +kernel
theorem dd_KI_stepOf_70 : decode bb_KI_stepOf 70 = .ok (.invokestatic 15, 3) := by decide +kernel
theorem dd_KI_stepOf_73 : decode bb_KI_stepOf 73 = .ok (.goto 4, 3) := by decide +kernel
theorem dd_KI_stepOf_76 : decode bb_KI_stepOf 76 = .ok (.iload_n 1, 1) := by decide +kernel
theorem dd_KI_stepOf_77 : decode bb_KI_stepOf 77 = .ok (.ireturn, 1) := by decide +kernel
theorem dd_KI_stepOf_78 : decode bb_KI_stepOf 78 = .ok (.iload_n 1, 1) := by decide +kernel
theorem dd_KI_stepOf_79 : decode bb_KI_stepOf 79 = .ok (.iload_n 2, 1) := by decide +kernel
theorem dd_KI_stepOf_80 : decode bb_KI_stepOf 80 = .ok (.invokestatic 9, 3) := by decide +kernel
theorem dd_KI_stepOf_83 : decode bb_KI_stepOf 83 = .ok (.iload_n 2, 1) := by decide +kernel
theorem dd_KI_stepOf_84 : decode bb_KI_stepOf 84 = .ok (.invokestatic 9, 3) := by decide +kernel
theorem dd_KI_stepOf_87 : decode bb_KI_stepOf 87 = .ok (.ireturn, 1) := by decide +kernel
theorem dd_KI_stepOf_88 : decode bb_KI_stepOf 88 = .ok (.iload_n 1, 1) := by decide +kernel
theorem dd_KI_stepOf_89 : decode bb_KI_stepOf 89 = .ok (.invokestatic 19, 3) := by decide +kernel
theorem dd_KI_stepOf_92 : decode bb_KI_stepOf 92 = .ok (.ireturn, 1) := by decide +kernel
def ff_KI_stepOf  (x : St) (v0 : Int32) (v1 : Int32) (v2 : Int32) : Option (Int32 × St) := (if v0 = 1 then bnd (ff_KI_widowStep x v1 v2) (fun r_2 x_3 => some (r_2, x_3)) else (if v0 = 2 then bnd (ff_KI_heirStep x v1) (fun r_6 x_7 => some (r_6, x_7)) else (if v0 = 3 then (if v2 ≤ 20 then bnd (ff_KI_widowStep x v1 v2) (fun r_11 x_12 => some (r_11, x_12)) else some (0, x)) else (if v0 = 4 then (if v1 ≤ 50 then some (v1, x) else bnd (ff_KI_heirStep x v1) (fun r_16 x_17 => some (r_16, x_17))) else (if v0 = 5 then bnd (ff_KI_widowStep x v1 v2) (fun r_20 x_21 => bnd (ff_KI_widowStep x_21 r_20 v2) (fun r_23 x_24 => some (r_23, x_24))) else bnd (ff_KI_mournerStep x v1) (fun r_26 x_27 => some (r_26, x_27)))))))
set_option maxHeartbeats 4000000 in
set_option maxRecDepth 100000 in
theorem ww_KI_stepOf {p : Program} {l : Launch} {e : Env} {s : State} {m : MethodId} {args : Array Value} {below : List Frame} {meth : Method} {c : Code} {E : Ev} {A : Nat → Prop} {ad : Nat → Nat} {r : Int32} {x' : St} (C0 : Cx E A RKI bb_KI_stepOf 3 (some .int) p s m args meth c) (hap : Ap ad ixC A)  {x : St} {v0 : Int32} {v1 : Int32} {v2 : Int32}  (hf : ff_KI_stepOf x v0 v1 v2 = some (r, x')) {H : Heap} {locs : List Loc} {ls : Array Slot} (hP : Wd E ad ixC x H) (hS : va_S A s.heap H locs) (hl : lv_has ls 3 [(0, .int v0), (1, .int v1), (2, .int v2)]) : W p l e rm_KI_stepOf s m args below meth c H locs 0 0 (MQ below (QX E ad ixC A (some (.int r)) x') args s 0 0 A) (F0 m 0 ls []) := by
  obtain ⟨hx, hb, hml, hr, hown, hts, hlk, hK⟩ := id C0
  have hf : (if v0 = 1 then bnd (ff_KI_widowStep x v1 v2) (fun r_2 x_3 => some (r_2, x_3)) else (if v0 = 2 then bnd (ff_KI_heirStep x v1) (fun r_6 x_7 => some (r_6, x_7)) else (if v0 = 3 then (if v2 ≤ 20 then bnd (ff_KI_widowStep x v1 v2) (fun r_11 x_12 => some (r_11, x_12)) else some (0, x)) else (if v0 = 4 then (if v1 ≤ 50 then some (v1, x) else bnd (ff_KI_heirStep x v1) (fun r_16 x_17 => some (r_16, x_17))) else (if v0 = 5 then bnd (ff_KI_widowStep x v1 v2) (fun r_20 x_21 => bnd (ff_KI_widowStep x_21 r_20 v2) (fun r_23 x_24 => some (r_23, x_24))) else bnd (ff_KI_mournerStep x v1) (fun r_26 x_27 => some (r_26, x_27))))))) = some (r, x') := hf
  refine lv_iload_n hx hb dd_KI_stepOf_0 rfl (lv_at hl 0 rfl) ?_
  by_cases h_1 : v0 = 1
  · have hf := (if_pos h_1).symm.trans hf
    refine lv_tableIn (off := 35) (tgt := 36) hx hb dd_KI_stepOf_1 (by rw [h_1]; decide) (by rw [h_1]; decide) (by rw [h_1]; decide) (by decide) ?_
    refine lv_iload_n hx hb dd_KI_stepOf_36 rfl (lv_at hl 1 rfl) ?_
    refine lv_iload_n hx hb dd_KI_stepOf_37 rfl (lv_at hl 2 rfl) ?_
    obtain ⟨r_2, x_3, c_4, hf⟩ := of_bnd hf
    refine cl_KI_9 C0 hap  c_4 hP hS ⟨Nat.le_of_ble_eq_true rfl, Nat.le_of_ble_eq_true rfl⟩ hl.1 (Nat.le_of_ble_eq_true rfl) dd_KI_stepOf_38 ⟨Nat.le_refl _, Nat.le_refl _⟩ (fun H locs hP hS => ?_)
    exact rrI C0 hP hS dd_KI_stepOf_41 hf
  have hf := (if_neg h_1).symm.trans hf
  by_cases h_5 : v0 = 2
  · have hf := (if_pos h_5).symm.trans hf
    refine lv_tableIn (off := 41) (tgt := 42) hx hb dd_KI_stepOf_1 (by rw [h_5]; decide) (by rw [h_5]; decide) (by rw [h_5]; decide) (by decide) ?_
    refine lv_iload_n hx hb dd_KI_stepOf_42 rfl (lv_at hl 1 rfl) ?_
    obtain ⟨r_6, x_7, c_8, hf⟩ := of_bnd hf
    refine cl_KI_15 C0 hap  c_8 hP hS ⟨Nat.le_of_ble_eq_true rfl, Nat.le_of_ble_eq_true rfl⟩ hl.1 (Nat.le_of_ble_eq_true rfl) dd_KI_stepOf_43 ⟨Nat.le_refl _, Nat.le_refl _⟩ (fun H locs hP hS => ?_)
    exact rrI C0 hP hS dd_KI_stepOf_46 hf
  have hf := (if_neg h_5).symm.trans hf
  by_cases h_9 : v0 = 3
  · have hf := (if_pos h_9).symm.trans hf
    refine lv_tableIn (off := 46) (tgt := 47) hx hb dd_KI_stepOf_1 (by rw [h_9]; decide) (by rw [h_9]; decide) (by rw [h_9]; decide) (by decide) ?_
    refine lv_iload_n hx hb dd_KI_stepOf_47 rfl (lv_at hl 2 rfl) ?_
    refine lv_bipush (v := 20) hx hb dd_KI_stepOf_48 (by decide) ?_
    refine lv_icmp_le (tgt := 57) hx hb dd_KI_stepOf_50 (by decide) (fun h_10 => ?_) (fun h_10 => ?_)
    · have hf := (if_pos h_10).symm.trans hf
      refine lv_iload_n hx hb dd_KI_stepOf_57 rfl (lv_at hl 1 rfl) ?_
      refine lv_iload_n hx hb dd_KI_stepOf_58 rfl (lv_at hl 2 rfl) ?_
      obtain ⟨r_11, x_12, c_13, hf⟩ := of_bnd hf
      refine cl_KI_9 C0 hap  c_13 hP hS ⟨Nat.le_of_ble_eq_true rfl, Nat.le_of_ble_eq_true rfl⟩ hl.1 (Nat.le_of_ble_eq_true rfl) dd_KI_stepOf_59 ⟨Nat.le_refl _, Nat.le_refl _⟩ (fun H locs hP hS => ?_)
      exact rrI C0 hP hS dd_KI_stepOf_62 hf
    · have hf := (if_neg h_10).symm.trans hf
      refine lv_iconst (v := 0) hx hb dd_KI_stepOf_53 (by decide) ?_
      refine lv_goto (tgt := 62) hx hb dd_KI_stepOf_54 (by decide) ?_
      exact rrI C0 hP hS dd_KI_stepOf_62 hf
  have hf := (if_neg h_9).symm.trans hf
  by_cases h_14 : v0 = 4
  · have hf := (if_pos h_14).symm.trans hf
    refine lv_tableIn (off := 62) (tgt := 63) hx hb dd_KI_stepOf_1 (by rw [h_14]; decide) (by rw [h_14]; decide) (by rw [h_14]; decide) (by decide) ?_
    refine lv_iload_n hx hb dd_KI_stepOf_63 rfl (lv_at hl 1 rfl) ?_
    refine lv_bipush (v := 50) hx hb dd_KI_stepOf_64 (by decide) ?_
    refine lv_icmp_le (tgt := 76) hx hb dd_KI_stepOf_66 (by decide) (fun h_15 => ?_) (fun h_15 => ?_)
    · have hf := (if_pos h_15).symm.trans hf
      refine lv_iload_n hx hb dd_KI_stepOf_76 rfl (lv_at hl 1 rfl) ?_
      exact rrI C0 hP hS dd_KI_stepOf_77 hf
    · have hf := (if_neg h_15).symm.trans hf
      refine lv_iload_n hx hb dd_KI_stepOf_69 rfl (lv_at hl 1 rfl) ?_
      obtain ⟨r_16, x_17, c_18, hf⟩ := of_bnd hf
      refine cl_KI_15 C0 hap  c_18 hP hS ⟨Nat.le_of_ble_eq_true rfl, Nat.le_of_ble_eq_true rfl⟩ hl.1 (Nat.le_of_ble_eq_true rfl) dd_KI_stepOf_70 ⟨Nat.le_refl _, Nat.le_refl _⟩ (fun H locs hP hS => ?_)
      refine lv_goto (tgt := 77) hx hb dd_KI_stepOf_73 (by decide) ?_
      exact rrI C0 hP hS dd_KI_stepOf_77 hf
  have hf := (if_neg h_14).symm.trans hf
  by_cases h_19 : v0 = 5
  · have hf := (if_pos h_19).symm.trans hf
    refine lv_tableIn (off := 77) (tgt := 78) hx hb dd_KI_stepOf_1 (by rw [h_19]; decide) (by rw [h_19]; decide) (by rw [h_19]; decide) (by decide) ?_
    refine lv_iload_n hx hb dd_KI_stepOf_78 rfl (lv_at hl 1 rfl) ?_
    refine lv_iload_n hx hb dd_KI_stepOf_79 rfl (lv_at hl 2 rfl) ?_
    obtain ⟨r_20, x_21, c_22, hf⟩ := of_bnd hf
    refine cl_KI_9 C0 hap  c_22 hP hS ⟨Nat.le_of_ble_eq_true rfl, Nat.le_of_ble_eq_true rfl⟩ hl.1 (Nat.le_of_ble_eq_true rfl) dd_KI_stepOf_80 ⟨Nat.le_refl _, Nat.le_refl _⟩ (fun H locs hP hS => ?_)
    refine lv_iload_n hx hb dd_KI_stepOf_83 rfl (lv_at hl 2 rfl) ?_
    obtain ⟨r_23, x_24, c_25, hf⟩ := of_bnd hf
    refine cl_KI_9 C0 hap  c_25 hP hS ⟨Nat.le_of_ble_eq_true rfl, Nat.le_of_ble_eq_true rfl⟩ hl.1 (Nat.le_of_ble_eq_true rfl) dd_KI_stepOf_84 ⟨Nat.le_refl _, Nat.le_refl _⟩ (fun H locs hP hS => ?_)
    exact rrI C0 hP hS dd_KI_stepOf_87 hf
  have hf := (if_neg h_19).symm.trans hf
  refine lv_tableOut (tgt := 88) hx hb dd_KI_stepOf_1 (by have z0 := lv_neT h_1 (a := 1) (by decide); have z1 := lv_neT h_5 (a := 2) (by decide); have z2 := lv_neT h_9 (a := 3) (by decide); have z3 := lv_neT h_14 (a := 4) (by decide); have z4 := lv_neT h_19 (a := 5) (by decide); omega) (by decide) ?_
  refine lv_iload_n hx hb dd_KI_stepOf_88 rfl (lv_at hl 1 rfl) ?_
  obtain ⟨r_26, x_27, c_28, hf⟩ := of_bnd hf
  refine cl_KI_19 C0 hap  c_28 hP hS ⟨Nat.le_of_ble_eq_true rfl, Nat.le_of_ble_eq_true rfl⟩ hl.1 (Nat.le_of_ble_eq_true rfl) dd_KI_stepOf_89 ⟨Nat.le_refl _, Nat.le_refl _⟩ (fun H locs hP hS => ?_)
  exact rrI C0 hP hS dd_KI_stepOf_92 hf
theorem cc_KI_stepOf {l : Launch} {E : Ev} {A : Nat → Prop} {ad : Nat → Nat} (hap : Ap ad ixC A) {x x' : St} {v0 : Int32} {v1 : Int32} {v2 : Int32} {r : Int32}  (hf : ff_KI_stepOf x v0 v1 v2 = some (r, x')) : Met l yy_KI_stepOf (Cond.code yy_KI_stepOf bb_KI_stepOf 3 (some .int) :: gtb) rm_KI_stepOf (va_Pc [.int v0, .int v1, .int v2] (PB E A ad ixC x)) (QX E ad ixC A (some (.int r)) x') 0 0 A := by
  exact enter (by decide) (Nat.le_of_ble_eq_true rfl) (fun p e s m below meth c ls C0 hP hS hl => ww_KI_stepOf C0 hap  hf hP hS hl)
abbrev rm_KI_feastOf : Room := { frames := 1, cells := 0, slots := 0, locals := 21 }
theorem dd_KI_feastOf_0 : decode bb_KI_feastOf 0 = .ok (.iload_n 0, 1) := by decide +kernel
theorem dd_KI_feastOf_1 : decode bb_KI_feastOf 1 = .ok (.ifCond .ne 9, 3) := by decide +kernel
theorem dd_KI_feastOf_4 : decode bb_KI_feastOf 4 = .ok (.iload_n 1, 1) := by decide +kernel
theorem dd_KI_feastOf_5 : decode bb_KI_feastOf 5 = .ok (.iconst 2, 1) := by decide +kernel
theorem dd_KI_feastOf_6 : decode bb_KI_feastOf 6 = .ok (.idiv, 1) := by decide +kernel
theorem dd_KI_feastOf_7 : decode bb_KI_feastOf 7 = .ok (.goto 11, 3) := by decide +kernel
theorem dd_KI_feastOf_10 : decode bb_KI_feastOf 10 = .ok (.iload_n 1, 1) := by decide +kernel
theorem dd_KI_feastOf_11 : decode bb_KI_feastOf 11 = .ok (.iconst 5, 1) := by decide +kernel
theorem dd_KI_feastOf_12 : decode bb_KI_feastOf 12 = .ok (.iadd, 1) := by decide +kernel
theorem dd_KI_feastOf_13 : decode bb_KI_feastOf 13 = .ok (.bipush 99, 2) := by decide +kernel
theorem dd_KI_feastOf_15 : decode bb_KI_feastOf 15 = .ok (.invokestatic 22, 3) := by decide +kernel
theorem dd_KI_feastOf_18 : decode bb_KI_feastOf 18 = .ok (.ireturn, 1) := by decide +kernel
def ff_KI_feastOf  (x : St) (v0 : Int32) (v1 : Int32) : Option (Int32 × St) := (if v0 = 0 then some (v1 / 2, x) else some (imin (v1 + 5) 99, x))
set_option maxHeartbeats 4000000 in
set_option maxRecDepth 100000 in
theorem ww_KI_feastOf {p : Program} {l : Launch} {e : Env} {s : State} {m : MethodId} {args : Array Value} {below : List Frame} {meth : Method} {c : Code} {E : Ev} {A : Nat → Prop} {ad : Nat → Nat} {r : Int32} {x' : St} (C0 : Cx E A RKI bb_KI_feastOf 2 (some .int) p s m args meth c) (hap : Ap ad ixC A)  {x : St} {v0 : Int32} {v1 : Int32}  (hf : ff_KI_feastOf x v0 v1 = some (r, x')) {H : Heap} {locs : List Loc} {ls : Array Slot} (hP : Wd E ad ixC x H) (hS : va_S A s.heap H locs) (hl : lv_has ls 2 [(0, .int v0), (1, .int v1)]) : W p l e rm_KI_feastOf s m args below meth c H locs 0 0 (MQ below (QX E ad ixC A (some (.int r)) x') args s 0 0 A) (F0 m 0 ls []) := by
  obtain ⟨hx, hb, hml, hr, hown, hts, hlk, hK⟩ := id C0
  have hf : (if v0 = 0 then some (v1 / 2, x) else some (imin (v1 + 5) 99, x)) = some (r, x') := hf
  refine lv_iload_n hx hb dd_KI_feastOf_0 rfl (lv_at hl 0 rfl) ?_
  refine lv_if_ne (tgt := 10) hx hb dd_KI_feastOf_1 (by decide) (fun h_1 => ?_) (fun h_1 => ?_)
  · have hf := (if_neg h_1).symm.trans hf
    refine lv_iload_n hx hb dd_KI_feastOf_10 rfl (lv_at hl 1 rfl) ?_
    refine lv_iconst (v := 5) hx hb dd_KI_feastOf_11 (by decide) ?_
    refine lv_iadd hx hb dd_KI_feastOf_12 ?_
    refine lv_bipush (v := 99) hx hb dd_KI_feastOf_13 (by decide) ?_
    refine rmin C0 hl.1 gw_m_KI_22 (Nat.le_of_ble_eq_true rfl) ⟨Nat.le_of_ble_eq_true rfl, Nat.le_of_ble_eq_true rfl⟩ ⟨Nat.le_refl _, Nat.le_refl _⟩ dd_KI_feastOf_15 ?_
    exact rrI C0 hP hS dd_KI_feastOf_18 hf
  · have hf := (if_pos h_1).symm.trans hf
    refine lv_iload_n hx hb dd_KI_feastOf_4 rfl (lv_at hl 1 rfl) ?_
    refine lv_iconst (v := 2) hx hb dd_KI_feastOf_5 (by decide) ?_
    refine lv_idiv hx hb dd_KI_feastOf_6 (by decide) ?_
    refine lv_goto (tgt := 18) hx hb dd_KI_feastOf_7 (by decide) ?_
    exact rrI C0 hP hS dd_KI_feastOf_18 hf
theorem cc_KI_feastOf {l : Launch} {E : Ev} {A : Nat → Prop} {ad : Nat → Nat} (hap : Ap ad ixC A) {x x' : St} {v0 : Int32} {v1 : Int32} {r : Int32}  (hf : ff_KI_feastOf x v0 v1 = some (r, x')) : Met l yy_KI_feastOf (Cond.code yy_KI_feastOf bb_KI_feastOf 2 (some .int) :: gtb) rm_KI_feastOf (va_Pc [.int v0, .int v1] (PB E A ad ixC x)) (QX E ad ixC A (some (.int r)) x') 0 0 A := by
  exact enter (by decide) (Nat.le_of_ble_eq_true rfl) (fun p e s m below meth c ls C0 hP hS hl => ww_KI_feastOf C0 hap  hf hP hS hl)
abbrev rm_LE_isFull : Room := { frames := 0, cells := 0, slots := 0, locals := 0 }
theorem dd_LE_isFull_0 : decode bb_LE_isFull 0 = .ok (.aload_n 0, 1) := by decide +kernel
theorem dd_LE_isFull_1 : decode bb_LE_isFull 1 = .ok (.getfield 28, 3) := by decide +kernel
theorem dd_LE_isFull_4 : decode bb_LE_isFull 4 = .ok (.aload_n 0, 1) := by decide +kernel
theorem dd_LE_isFull_5 : decode bb_LE_isFull 5 = .ok (.getfield 15, 3) := by decide +kernel
theorem dd_LE_isFull_8 : decode bb_LE_isFull 8 = .ok (.if_icmp .lt 7, 3) := by decide +kernel
theorem dd_LE_isFull_11 : decode bb_LE_isFull 11 = .ok (.iconst 1, 1) := by decide +kernel
theorem dd_LE_isFull_12 : decode bb_LE_isFull 12 = .ok (.goto 4, 3) := by decide +kernel
theorem dd_LE_isFull_15 : decode bb_LE_isFull 15 = .ok (.iconst 0, 1) := by decide +kernel
theorem dd_LE_isFull_16 : decode bb_LE_isFull 16 = .ok (.ireturn, 1) := by decide +kernel
def ff_LE_isFull  (x : St) (v0 : Nat) : Option (Int32 × St) := (if (gi x v0 3) < (gi x v0 0) then some (0, x) else some (1, x))
set_option maxHeartbeats 4000000 in
set_option maxRecDepth 100000 in
theorem ww_LE_isFull {p : Program} {l : Launch} {e : Env} {s : State} {m : MethodId} {args : Array Value} {below : List Frame} {meth : Method} {c : Code} {E : Ev} {A : Nat → Prop} {ad : Nat → Nat} {r : Int32} {x' : St} (C0 : Cx E A RLE bb_LE_isFull 1 (some .boolean) p s m args meth c) (hap : Ap ad ixC A)  {x : St} {v0 : Nat} (ho_v0 : isO ixC v0 1) (hf : ff_LE_isFull x v0 = some (r, x')) {H : Heap} {locs : List Loc} {ls : Array Slot} (hP : Wd E ad ixC x H) (hS : va_S A s.heap H locs) (hl : lv_has ls 1 [(0, .ref (ad v0))]) : W p l e rm_LE_isFull s m args below meth c H locs 0 0 (MQ below (QX E ad ixC A (some (.int r)) x') args s 0 0 A) (F0 m 0 ls []) := by
  obtain ⟨hx, hb, hml, hr, hown, hts, hlk, hK⟩ := id C0
  have hf : (if (gi x v0 3) < (gi x v0 0) then some (0, x) else some (1, x)) = some (r, x') := hf
  refine lv_aload_n hx hb dd_LE_isFull_0 rfl (lv_at hl 0 rfl) ?_
  refine gf_LE_28 C0 hP ho_v0 dd_LE_isFull_1 ?_
  refine lv_aload_n hx hb dd_LE_isFull_4 rfl (lv_at hl 0 rfl) ?_
  refine gf_LE_15 C0 hP ho_v0 dd_LE_isFull_5 ?_
  refine lv_icmp_lt (tgt := 15) hx hb dd_LE_isFull_8 (by decide) (fun h_1 => ?_) (fun h_1 => ?_)
  · have hf := (if_pos h_1).symm.trans hf
    refine lv_iconst (v := 0) hx hb dd_LE_isFull_15 (by decide) ?_
    exact rrZ C0 hP hS (by decide) dd_LE_isFull_16 hf
  · have hf := (if_neg h_1).symm.trans hf
    refine lv_iconst (v := 1) hx hb dd_LE_isFull_11 (by decide) ?_
    refine lv_goto (tgt := 16) hx hb dd_LE_isFull_12 (by decide) ?_
    exact rrZ C0 hP hS (by decide) dd_LE_isFull_16 hf
theorem cc_LE_isFull {l : Launch} {E : Ev} {A : Nat → Prop} {ad : Nat → Nat} (hap : Ap ad ixC A) {x x' : St} {v0 : Nat} {r : Int32} (ho_v0 : isO ixC v0 1) (hf : ff_LE_isFull x v0 = some (r, x')) : Met l yy_LE_isFull (Cond.code yy_LE_isFull bb_LE_isFull 1 (some .boolean) :: gtb) rm_LE_isFull (va_Pc [.ref (ad v0)] (PB E A ad ixC x)) (QX E ad ixC A (some (.int r)) x') 0 0 A := by
  exact enter (by decide) (Nat.le_of_ble_eq_true rfl) (fun p e s m below meth c ls C0 hP hS hl => ww_LE_isFull C0 hap ho_v0 hf hP hS hl)
theorem cl_LE_35 {p : Program} {l : Launch} {e : Env} {R : Room} {s : State} {m : MethodId} {args : Array Value} {below : List Frame} {meth : Method} {c : Code} {H : Heap} {locs : List Loc} {cells slots : Nat} {Q : State → Prop} {cc : ByteArray} {pc : Nat} {ls : Array Slot} {rest : List Value} {E : Ev} {A : Nat → Prop} {ad : Nat → Nat} {nL : Nat} {rt : Option FieldType} (C0 : Cx E A RLE cc nL rt p s m args meth c) (hap : Ap ad ixC A) {x x' : St} {v0 : Nat} {r : Int32} (ho_v0 : isO ixC v0 1) (hc : ff_LE_isFull x v0 = some (r, x')) (hP : Wd E ad ixC x H) (hS : va_S A s.heap H locs) (hR : rm_LE_isFull.frames + 1 ≤ R.frames ∧ 8 + (1 + 11) + rm_LE_isFull.locals ≤ R.locals) (hls : ls.size = nL) (hroom : (rest.map fun v => v.category).sum ≤ 8) (hdg : decode cc pc = .ok (.invokevirtual 35, 3)) (hf : cells ≤ R.cells ∧ slots ≤ R.slots) (kk : ∀ H1 locs1, Wd E ad ixC x' H1 → va_S A s.heap H1 locs1 → W p l e R s m args below meth c H1 locs1 cells slots Q (F0 m (pc + 3) ls (.int r :: rest))) : W p l e R s m args below meth c H locs cells slots Q (F0 m pc ls (.ref (ad v0) :: rest)) :=
  rcV (n := 0) C0 (cc_LE_isFull hap ho_v0 hc) hP hS ho_v0 vcl_1 (by decide) gw_code_LE_isFull gw_m_LE_35 gw_inst_LE_isFull gw_sel_LE_isFull gw_ini_LE rfl rfl (by decide +kernel) rfl hR hls rfl hroom hdg hf (fun H1 locs1 a _ _ b => kk H1 locs1 a b)
abbrev rm_LE_add : Room := { frames := 1, cells := 0, slots := 0, locals := 20 }
theorem dd_LE_add_0 : decode bb_LE_add 0 = .ok (.aload_n 0, 1) := by decide +kernel
theorem dd_LE_add_1 : decode bb_LE_add 1 = .ok (.invokevirtual 35, 3) := by decide +kernel
theorem dd_LE_add_4 : decode bb_LE_add 4 = .ok (.ifCond .eq 6, 3) := by decide +kernel
theorem dd_LE_add_7 : decode bb_LE_add 7 = .ok (.bipush (-4), 2) := by decide +kernel
theorem dd_LE_add_9 : decode bb_LE_add 9 = .ok (.ireturn, 1) := by decide +kernel
theorem dd_LE_add_10 : decode bb_LE_add 10 = .ok (.aload_n 0, 1) := by decide +kernel
theorem dd_LE_add_11 : decode bb_LE_add 11 = .ok (.getfield 28, 3) := by decide +kernel
theorem dd_LE_add_14 : decode bb_LE_add 14 = .ok (.aload_n 0, 1) := by decide +kernel
theorem dd_LE_add_15 : decode bb_LE_add 15 = .ok (.getfield 21, 3) := by decide +kernel
theorem dd_LE_add_18 : decode bb_LE_add 18 = .ok (.imul, 1) := by decide +kernel
theorem dd_LE_add_19 : decode bb_LE_add 19 = .ok (.istore 4, 2) := by decide +kernel
theorem dd_LE_add_21 : decode bb_LE_add 21 = .ok (.aload_n 0, 1) := by decide +kernel
theorem dd_LE_add_22 : decode bb_LE_add 22 = .ok (.getfield 24, 3) := by decide +kernel
theorem dd_LE_add_25 : decode bb_LE_add 25 = .ok (.iload 4, 2) := by decide +kernel
theorem dd_LE_add_27 : decode bb_LE_add 27 = .ok (.iload_n 1, 1) := by decide +kernel
theorem dd_LE_add_28 : decode bb_LE_add 28 = .ok (.iastore, 1) := by decide +kernel
theorem dd_LE_add_29 : decode bb_LE_add 29 = .ok (.aload_n 0, 1) := by decide +kernel
theorem dd_LE_add_30 : decode bb_LE_add 30 = .ok (.getfield 21, 3) := by decide +kernel
theorem dd_LE_add_33 : decode bb_LE_add 33 = .ok (.iconst 1, 1) := by decide +kernel
theorem dd_LE_add_34 : decode bb_LE_add 34 = .ok (.if_icmp .le 13, 3) := by decide +kernel
theorem dd_LE_add_37 : decode bb_LE_add 37 = .ok (.aload_n 0, 1) := by decide +kernel
theorem dd_LE_add_38 : decode bb_LE_add 38 = .ok (.getfield 24, 3) := by decide +kernel
theorem dd_LE_add_41 : decode bb_LE_add 41 = .ok (.iload 4, 2) := by decide +kernel
theorem dd_LE_add_43 : decode bb_LE_add 43 = .ok (.iconst 1, 1) := by decide +kernel
theorem dd_LE_add_44 : decode bb_LE_add 44 = .ok (.iadd, 1) := by decide +kernel
theorem dd_LE_add_45 : decode bb_LE_add 45 = .ok (.iload_n 2, 1) := by decide +kernel
theorem dd_LE_add_46 : decode bb_LE_add 46 = .ok (.iastore, 1) := by decide +kernel
theorem dd_LE_add_47 : decode bb_LE_add 47 = .ok (.aload_n 0, 1) := by decide +kernel
theorem dd_LE_add_48 : decode bb_LE_add 48 = .ok (.getfield 21, 3) := by decide +kernel
theorem dd_LE_add_51 : decode bb_LE_add 51 = .ok (.iconst 2, 1) := by decide +kernel
theorem dd_LE_add_52 : decode bb_LE_add 52 = .ok (.if_icmp .le 13, 3) := by decide +kernel
theorem dd_LE_add_55 : decode bb_LE_add 55 = .ok (.aload_n 0, 1) := by decide +kernel
theorem dd_LE_add_56 : decode bb_LE_add 56 = .ok (.getfield 24, 3) := by decide +kernel
theorem dd_LE_add_59 : decode bb_LE_add 59 = .ok (.iload 4, 2) := by decide +kernel
theorem dd_LE_add_61 : decode bb_LE_add 61 = .ok (.iconst 2, 1) := by decide +kernel
theorem dd_LE_add_62 : decode bb_LE_add 62 = .ok (.iadd, 1) := by decide +kernel
theorem dd_LE_add_63 : decode bb_LE_add 63 = .ok (.iload_n 3, 1) := by decide +kernel
theorem dd_LE_add_64 : decode bb_LE_add 64 = .ok (.iastore, 1) := by decide +kernel
theorem dd_LE_add_65 : decode bb_LE_add 65 = .ok (.aload_n 0, 1) := by decide +kernel
theorem dd_LE_add_66 : decode bb_LE_add 66 = .ok (.dup, 1) := by decide +kernel
theorem dd_LE_add_67 : decode bb_LE_add 67 = .ok (.getfield 28, 3) := by decide +kernel
theorem dd_LE_add_70 : decode bb_LE_add 70 = .ok (.iconst 1, 1) := by decide +kernel
theorem dd_LE_add_71 : decode bb_LE_add 71 = .ok (.iadd, 1) := by decide +kernel
theorem dd_LE_add_72 : decode bb_LE_add 72 = .ok (.putfield 28, 3) := by decide +kernel
theorem dd_LE_add_75 : decode bb_LE_add 75 = .ok (.aload_n 0, 1) := by decide +kernel
theorem dd_LE_add_76 : decode bb_LE_add 76 = .ok (.getfield 28, 3) := by decide +kernel
theorem dd_LE_add_79 : decode bb_LE_add 79 = .ok (.iconst 1, 1) := by decide +kernel
theorem dd_LE_add_80 : decode bb_LE_add 80 = .ok (.isub, 1) := by decide +kernel
theorem dd_LE_add_81 : decode bb_LE_add 81 = .ok (.ireturn, 1) := by decide +kernel
def ff_LE_add_65  (x : St) (v0 : Nat) : Option (Int32 × St) := st (si x v0 3 ((gi x v0 3) + 1)) (fun x_10 => some ((gi x_10 v0 3) - 1, x_10))
def ff_LE_add_47  (x : St) (v0 : Nat) (v3 : Int32) (v4 : Int32) : Option (Int32 × St) := (if (gi x v0 1) ≤ 2 then ff_LE_add_65 x v0 else (if ixb (v4 + 2) (ln (rf v0 2)) = true then st (si x (rf v0 2) (ix (v4 + 2)) v3) (fun x_12 => ff_LE_add_65 x_12 v0) else none))
def ff_LE_add  (x : St) (v0 : Nat) (v1 : Int32) (v2 : Int32) (v3 : Int32) : Option (Int32 × St) := bnd (ff_LE_isFull x v0) (fun r_1 x_2 => (if r_1 = 0 then li ((gi x_2 v0 3) * (gi x_2 v0 1)) (fun u_5 => (if ixb u_5 (ln (rf v0 2)) = true then st (si x_2 (rf v0 2) (ix u_5) v1) (fun x_7 => (if (gi x_7 v0 1) ≤ 1 then ff_LE_add_47 x_7 v0 v3 u_5 else (if ixb (u_5 + 1) (ln (rf v0 2)) = true then st (si x_7 (rf v0 2) (ix (u_5 + 1)) v2) (fun x_14 => ff_LE_add_47 x_14 v0 v3 u_5) else none))) else none)) else some ((-4), x_2)))
set_option maxHeartbeats 4000000 in
set_option maxRecDepth 100000 in
theorem ww_LE_add_65 {p : Program} {l : Launch} {e : Env} {s : State} {m : MethodId} {args : Array Value} {below : List Frame} {meth : Method} {c : Code} {E : Ev} {A : Nat → Prop} {ad : Nat → Nat} {r : Int32} {x' : St} (C0 : Cx E A RLE bb_LE_add 5 (some .int) p s m args meth c) (hap : Ap ad ixC A)  {x : St} {v0 : Nat} (ho_v0 : isO ixC v0 1) (hf : ff_LE_add_65 x v0 = some (r, x')) {H : Heap} {locs : List Loc} {ls : Array Slot} (hP : Wd E ad ixC x H) (hS : va_S A s.heap H locs) (hl : lv_has ls 5 [(0, .ref (ad v0))]) : W p l e rm_LE_add s m args below meth c H locs 0 0 (MQ below (QX E ad ixC A (some (.int r)) x') args s 0 0 A) (F0 m 65 ls []) := by
  obtain ⟨hx, hb, hml, hr, hown, hts, hlk, hK⟩ := id C0
  have hf : st (si x v0 3 ((gi x v0 3) + 1)) (fun x_10 => some ((gi x_10 v0 3) - 1, x_10)) = some (r, x') := hf
  refine lv_aload_n hx hb dd_LE_add_65 rfl (lv_at hl 0 rfl) ?_
  refine lv_dup hx hb dd_LE_add_66 rfl ?_
  refine gf_LE_28 C0 hP ho_v0 dd_LE_add_67 ?_
  refine lv_iconst (v := 1) hx hb dd_LE_add_70 (by decide) ?_
  refine lv_iadd hx hb dd_LE_add_71 ?_
  obtain ⟨x_10, hx_10, hf⟩ := of_st hf
  refine pf_LE_28 C0 hap hP hS ho_v0 hx_10 dd_LE_add_72 (fun H locs hP hS => ?_)
  refine lv_aload_n hx hb dd_LE_add_75 rfl (lv_at hl 0 rfl) ?_
  refine gf_LE_28 C0 hP ho_v0 dd_LE_add_76 ?_
  refine lv_iconst (v := 1) hx hb dd_LE_add_79 (by decide) ?_
  refine lv_isub hx hb dd_LE_add_80 ?_
  exact rrI C0 hP hS dd_LE_add_81 hf
set_option maxHeartbeats 4000000 in
set_option maxRecDepth 100000 in
theorem ww_LE_add_47 {p : Program} {l : Launch} {e : Env} {s : State} {m : MethodId} {args : Array Value} {below : List Frame} {meth : Method} {c : Code} {E : Ev} {A : Nat → Prop} {ad : Nat → Nat} {r : Int32} {x' : St} (C0 : Cx E A RLE bb_LE_add 5 (some .int) p s m args meth c) (hap : Ap ad ixC A)  {x : St} {v0 : Nat} {v3 : Int32} {v4 : Int32} (ho_v0 : isO ixC v0 1) (hf : ff_LE_add_47 x v0 v3 v4 = some (r, x')) {H : Heap} {locs : List Loc} {ls : Array Slot} (hP : Wd E ad ixC x H) (hS : va_S A s.heap H locs) (hl : lv_has ls 5 [(0, .ref (ad v0)), (3, .int v3), (4, .int v4)]) : W p l e rm_LE_add s m args below meth c H locs 0 0 (MQ below (QX E ad ixC A (some (.int r)) x') args s 0 0 A) (F0 m 47 ls []) := by
  obtain ⟨hx, hb, hml, hr, hown, hts, hlk, hK⟩ := id C0
  have hf : (if (gi x v0 1) ≤ 2 then ff_LE_add_65 x v0 else (if ixb (v4 + 2) (ln (rf v0 2)) = true then st (si x (rf v0 2) (ix (v4 + 2)) v3) (fun x_12 => ff_LE_add_65 x_12 v0) else none)) = some (r, x') := hf
  refine lv_aload_n hx hb dd_LE_add_47 rfl (lv_at hl 0 rfl) ?_
  refine gf_LE_21 C0 hP ho_v0 dd_LE_add_48 ?_
  refine lv_iconst (v := 2) hx hb dd_LE_add_51 (by decide) ?_
  refine lv_icmp_le (tgt := 65) hx hb dd_LE_add_52 (by decide) (fun h_9 => ?_) (fun h_9 => ?_)
  · have hf := (if_pos h_9).symm.trans hf
    exact ww_LE_add_65 C0 hap  ho_v0 hf hP hS (lv_sub hl [0] rfl)
  · have hf := (if_neg h_9).symm.trans hf
    refine lv_aload_n hx hb dd_LE_add_55 rfl (lv_at hl 0 rfl) ?_
    refine gf_LE_24 C0 hP ho_v0 dd_LE_add_56 ?_
    refine lv_iload hx hb dd_LE_add_59 (lv_at hl 2 rfl) ?_
    refine lv_iconst (v := 2) hx hb dd_LE_add_61 (by decide) ?_
    refine lv_iadd hx hb dd_LE_add_62 ?_
    refine lv_iload_n hx hb dd_LE_add_63 rfl (lv_at hl 1 rfl) ?_
    obtain ⟨h_11, hf⟩ := of_ifb hf
    obtain ⟨x_12, hx_12, hf⟩ := of_st hf
    refine sI C0 hap hP hS (tp_1_2 ho_v0) h_11 hx_12 dd_LE_add_64 (fun H locs hP hS => ?_)
    exact ww_LE_add_65 C0 hap  ho_v0 hf hP hS (lv_sub hl [0] rfl)
set_option maxHeartbeats 4000000 in
set_option maxRecDepth 100000 in
theorem ww_LE_add {p : Program} {l : Launch} {e : Env} {s : State} {m : MethodId} {args : Array Value} {below : List Frame} {meth : Method} {c : Code} {E : Ev} {A : Nat → Prop} {ad : Nat → Nat} {r : Int32} {x' : St} (C0 : Cx E A RLE bb_LE_add 5 (some .int) p s m args meth c) (hap : Ap ad ixC A)  {x : St} {v0 : Nat} {v1 : Int32} {v2 : Int32} {v3 : Int32} (ho_v0 : isO ixC v0 1) (hf : ff_LE_add x v0 v1 v2 v3 = some (r, x')) {H : Heap} {locs : List Loc} {ls : Array Slot} (hP : Wd E ad ixC x H) (hS : va_S A s.heap H locs) (hl : lv_has ls 5 [(0, .ref (ad v0)), (1, .int v1), (2, .int v2), (3, .int v3)]) : W p l e rm_LE_add s m args below meth c H locs 0 0 (MQ below (QX E ad ixC A (some (.int r)) x') args s 0 0 A) (F0 m 0 ls []) := by
  obtain ⟨hx, hb, hml, hr, hown, hts, hlk, hK⟩ := id C0
  have hf : bnd (ff_LE_isFull x v0) (fun r_1 x_2 => (if r_1 = 0 then li ((gi x_2 v0 3) * (gi x_2 v0 1)) (fun u_5 => (if ixb u_5 (ln (rf v0 2)) = true then st (si x_2 (rf v0 2) (ix u_5) v1) (fun x_7 => (if (gi x_7 v0 1) ≤ 1 then ff_LE_add_47 x_7 v0 v3 u_5 else (if ixb (u_5 + 1) (ln (rf v0 2)) = true then st (si x_7 (rf v0 2) (ix (u_5 + 1)) v2) (fun x_14 => ff_LE_add_47 x_14 v0 v3 u_5) else none))) else none)) else some ((-4), x_2))) = some (r, x') := hf
  refine lv_aload_n hx hb dd_LE_add_0 rfl (lv_at hl 0 rfl) ?_
  obtain ⟨r_1, x_2, c_3, hf⟩ := of_bnd hf
  refine cl_LE_35 C0 hap ho_v0 c_3 hP hS ⟨Nat.le_of_ble_eq_true rfl, Nat.le_of_ble_eq_true rfl⟩ hl.1 (Nat.le_of_ble_eq_true rfl) dd_LE_add_1 ⟨Nat.le_refl _, Nat.le_refl _⟩ (fun H locs hP hS => ?_)
  refine lv_if_eq (tgt := 10) hx hb dd_LE_add_4 (by decide) (fun h_4 => ?_) (fun h_4 => ?_)
  · have hf := (if_pos h_4).symm.trans hf
    refine lv_aload_n hx hb dd_LE_add_10 rfl (lv_at hl 0 rfl) ?_
    refine gf_LE_28 C0 hP ho_v0 dd_LE_add_11 ?_
    refine lv_aload_n hx hb dd_LE_add_14 rfl (lv_at hl 0 rfl) ?_
    refine gf_LE_21 C0 hP ho_v0 dd_LE_add_15 ?_
    refine lv_imul hx hb dd_LE_add_18 ?_
    obtain ⟨u_5, eu_5, hf⟩ := of_li hf
    refine tpi eu_5 ?_
    refine lv_istore (lv' := [(4, .int u_5), (0, .ref (ad v0)), (1, .int v1), (2, .int v2), (3, .int v3)]) hx hb dd_LE_add_19 hl (by decide) rfl (fun ls hl => ?_)
    refine lv_aload_n hx hb dd_LE_add_21 rfl (lv_at hl 1 rfl) ?_
    refine gf_LE_24 C0 hP ho_v0 dd_LE_add_22 ?_
    refine lv_iload hx hb dd_LE_add_25 (lv_at hl 0 rfl) ?_
    refine lv_iload_n hx hb dd_LE_add_27 rfl (lv_at hl 2 rfl) ?_
    obtain ⟨h_6, hf⟩ := of_ifb hf
    obtain ⟨x_7, hx_7, hf⟩ := of_st hf
    refine sI C0 hap hP hS (tp_1_2 ho_v0) h_6 hx_7 dd_LE_add_28 (fun H locs hP hS => ?_)
    refine lv_aload_n hx hb dd_LE_add_29 rfl (lv_at hl 1 rfl) ?_
    refine gf_LE_21 C0 hP ho_v0 dd_LE_add_30 ?_
    refine lv_iconst (v := 1) hx hb dd_LE_add_33 (by decide) ?_
    refine lv_icmp_le (tgt := 47) hx hb dd_LE_add_34 (by decide) (fun h_8 => ?_) (fun h_8 => ?_)
    · have hf := (if_pos h_8).symm.trans hf
      exact ww_LE_add_47 C0 hap  ho_v0 hf hP hS (lv_sub hl [1, 4, 0] rfl)
    · have hf := (if_neg h_8).symm.trans hf
      refine lv_aload_n hx hb dd_LE_add_37 rfl (lv_at hl 1 rfl) ?_
      refine gf_LE_24 C0 hP ho_v0 dd_LE_add_38 ?_
      refine lv_iload hx hb dd_LE_add_41 (lv_at hl 0 rfl) ?_
      refine lv_iconst (v := 1) hx hb dd_LE_add_43 (by decide) ?_
      refine lv_iadd hx hb dd_LE_add_44 ?_
      refine lv_iload_n hx hb dd_LE_add_45 rfl (lv_at hl 3 rfl) ?_
      obtain ⟨h_13, hf⟩ := of_ifb hf
      obtain ⟨x_14, hx_14, hf⟩ := of_st hf
      refine sI C0 hap hP hS (tp_1_2 ho_v0) h_13 hx_14 dd_LE_add_46 (fun H locs hP hS => ?_)
      exact ww_LE_add_47 C0 hap  ho_v0 hf hP hS (lv_sub hl [1, 4, 0] rfl)
  · have hf := (if_neg h_4).symm.trans hf
    refine lv_bipush (v := -4) hx hb dd_LE_add_7 (by decide) ?_
    exact rrI C0 hP hS dd_LE_add_9 hf
theorem cc_LE_add {l : Launch} {E : Ev} {A : Nat → Prop} {ad : Nat → Nat} (hap : Ap ad ixC A) {x x' : St} {v0 : Nat} {v1 : Int32} {v2 : Int32} {v3 : Int32} {r : Int32} (ho_v0 : isO ixC v0 1) (hf : ff_LE_add x v0 v1 v2 v3 = some (r, x')) : Met l yy_LE_add (Cond.code yy_LE_add bb_LE_add 5 (some .int) :: gtb) rm_LE_add (va_Pc [.ref (ad v0), .int v1, .int v2, .int v3] (PB E A ad ixC x)) (QX E ad ixC A (some (.int r)) x') 0 0 A := by
  exact enter (by decide) (Nat.le_of_ble_eq_true rfl) (fun p e s m below meth c ls C0 hP hS hl => ww_LE_add C0 hap ho_v0 hf hP hS hl)
abbrev rm_LE_dropLast : Room := { frames := 0, cells := 0, slots := 0, locals := 0 }
theorem dd_LE_dropLast_0 : decode bb_LE_dropLast 0 = .ok (.aload_n 0, 1) := by decide +kernel
theorem dd_LE_dropLast_1 : decode bb_LE_dropLast 1 = .ok (.getfield 28, 3) := by decide +kernel
theorem dd_LE_dropLast_4 : decode bb_LE_dropLast 4 = .ok (.ifCond .le 13, 3) := by decide +kernel
theorem dd_LE_dropLast_7 : decode bb_LE_dropLast 7 = .ok (.aload_n 0, 1) := by decide +kernel
theorem dd_LE_dropLast_8 : decode bb_LE_dropLast 8 = .ok (.dup, 1) := by decide +kernel
theorem dd_LE_dropLast_9 : decode bb_LE_dropLast 9 = .ok (.getfield 28, 3) := by decide +kernel
theorem dd_LE_dropLast_12 : decode bb_LE_dropLast 12 = .ok (.iconst 1, 1) := by decide +kernel
theorem dd_LE_dropLast_13 : decode bb_LE_dropLast 13 = .ok (.isub, 1) := by decide +kernel
theorem dd_LE_dropLast_14 : decode bb_LE_dropLast 14 = .ok (.putfield 28, 3) := by decide +kernel
theorem dd_LE_dropLast_17 : decode bb_LE_dropLast 17 = .ok (.return_, 1) := by decide +kernel
def ff_LE_dropLast  (x : St) (v0 : Nat) : Option (Unit × St) := (if (gi x v0 3) ≤ 0 then some ((), x) else st (si x v0 3 ((gi x v0 3) - 1)) (fun x_2 => some ((), x_2)))
set_option maxHeartbeats 4000000 in
set_option maxRecDepth 100000 in
theorem ww_LE_dropLast {p : Program} {l : Launch} {e : Env} {s : State} {m : MethodId} {args : Array Value} {below : List Frame} {meth : Method} {c : Code} {E : Ev} {A : Nat → Prop} {ad : Nat → Nat} {r : Unit} {x' : St} (C0 : Cx E A RLE bb_LE_dropLast 1 (none) p s m args meth c) (hap : Ap ad ixC A)  {x : St} {v0 : Nat} (ho_v0 : isO ixC v0 1) (hf : ff_LE_dropLast x v0 = some (r, x')) {H : Heap} {locs : List Loc} {ls : Array Slot} (hP : Wd E ad ixC x H) (hS : va_S A s.heap H locs) (hl : lv_has ls 1 [(0, .ref (ad v0))]) : W p l e rm_LE_dropLast s m args below meth c H locs 0 0 (MQ below (QX E ad ixC A (none) x') args s 0 0 A) (F0 m 0 ls []) := by
  obtain ⟨hx, hb, hml, hr, hown, hts, hlk, hK⟩ := id C0
  have hf : (if (gi x v0 3) ≤ 0 then some ((), x) else st (si x v0 3 ((gi x v0 3) - 1)) (fun x_2 => some ((), x_2))) = some (r, x') := hf
  refine lv_aload_n hx hb dd_LE_dropLast_0 rfl (lv_at hl 0 rfl) ?_
  refine gf_LE_28 C0 hP ho_v0 dd_LE_dropLast_1 ?_
  refine lv_if_le (tgt := 17) hx hb dd_LE_dropLast_4 (by decide) (fun h_1 => ?_) (fun h_1 => ?_)
  · have hf := (if_pos h_1).symm.trans hf
    exact rrV C0 hP hS dd_LE_dropLast_17 hf
  · have hf := (if_neg h_1).symm.trans hf
    refine lv_aload_n hx hb dd_LE_dropLast_7 rfl (lv_at hl 0 rfl) ?_
    refine lv_dup hx hb dd_LE_dropLast_8 rfl ?_
    refine gf_LE_28 C0 hP ho_v0 dd_LE_dropLast_9 ?_
    refine lv_iconst (v := 1) hx hb dd_LE_dropLast_12 (by decide) ?_
    refine lv_isub hx hb dd_LE_dropLast_13 ?_
    obtain ⟨x_2, hx_2, hf⟩ := of_st hf
    refine pf_LE_28 C0 hap hP hS ho_v0 hx_2 dd_LE_dropLast_14 (fun H locs hP hS => ?_)
    exact rrV C0 hP hS dd_LE_dropLast_17 hf
theorem cc_LE_dropLast {l : Launch} {E : Ev} {A : Nat → Prop} {ad : Nat → Nat} (hap : Ap ad ixC A) {x x' : St} {v0 : Nat} {r : Unit} (ho_v0 : isO ixC v0 1) (hf : ff_LE_dropLast x v0 = some (r, x')) : Met l yy_LE_dropLast (Cond.code yy_LE_dropLast bb_LE_dropLast 1 (none) :: gtb) rm_LE_dropLast (va_Pc [.ref (ad v0)] (PB E A ad ixC x)) (QX E ad ixC A (none) x') 0 0 A := by
  exact enter (by decide) (Nat.le_of_ble_eq_true rfl) (fun p e s m below meth c ls C0 hP hS hl => ww_LE_dropLast C0 hap ho_v0 hf hP hS hl)
abbrev rm_LE_copyFrom : Room := { frames := 1, cells := 0, slots := 0, locals := 26 }
theorem dd_LE_copyFrom_0 : decode bb_LE_copyFrom 0 = .ok (.aload_n 1, 1) := by decide +kernel
theorem dd_LE_copyFrom_1 : decode bb_LE_copyFrom 1 = .ok (.getfield 24, 3) := by decide +kernel
theorem dd_LE_copyFrom_4 : decode bb_LE_copyFrom 4 = .ok (.arraylength, 1) := by decide +kernel
theorem dd_LE_copyFrom_5 : decode bb_LE_copyFrom 5 = .ok (.aload_n 0, 1) := by decide +kernel
theorem dd_LE_copyFrom_6 : decode bb_LE_copyFrom 6 = .ok (.getfield 24, 3) := by decide +kernel
theorem dd_LE_copyFrom_9 : decode bb_LE_copyFrom 9 = .ok (.arraylength, 1) := by decide +kernel
theorem dd_LE_copyFrom_10 : decode bb_LE_copyFrom 10 = .ok (.if_icmp .ne 29, 3) := by decide +kernel
theorem dd_LE_copyFrom_13 : decode bb_LE_copyFrom 13 = .ok (.aload_n 1, 1) := by decide +kernel
theorem dd_LE_copyFrom_14 : decode bb_LE_copyFrom 14 = .ok (.getfield 24, 3) := by decide +kernel
theorem dd_LE_copyFrom_17 : decode bb_LE_copyFrom 17 = .ok (.iconst 0, 1) := by decide +kernel
theorem dd_LE_copyFrom_18 : decode bb_LE_copyFrom 18 = .ok (.aload_n 0, 1) := by decide +kernel
theorem dd_LE_copyFrom_19 : decode bb_LE_copyFrom 19 = .ok (.getfield 24, 3) := by decide +kernel
theorem dd_LE_copyFrom_22 : decode bb_LE_copyFrom 22 = .ok (.iconst 0, 1) := by decide +kernel
theorem dd_LE_copyFrom_23 : decode bb_LE_copyFrom 23 = .ok (.aload_n 0, 1) := by decide +kernel
theorem dd_LE_copyFrom_24 : decode bb_LE_copyFrom 24 = .ok (.getfield 24, 3) := by decide +kernel
theorem dd_LE_copyFrom_27 : decode bb_LE_copyFrom 27 = .ok (.arraylength, 1) := by decide +kernel
theorem dd_LE_copyFrom_28 : decode bb_LE_copyFrom 28 = .ok (.invokestatic 39, 3) := by decide +kernel
theorem dd_LE_copyFrom_31 : decode bb_LE_copyFrom 31 = .ok (.aload_n 0, 1) := by decide +kernel
theorem dd_LE_copyFrom_32 : decode bb_LE_copyFrom 32 = .ok (.aload_n 1, 1) := by decide +kernel
theorem dd_LE_copyFrom_33 : decode bb_LE_copyFrom 33 = .ok (.getfield 28, 3) := by decide +kernel
theorem dd_LE_copyFrom_36 : decode bb_LE_copyFrom 36 = .ok (.putfield 28, 3) := by decide +kernel
theorem dd_LE_copyFrom_39 : decode bb_LE_copyFrom 39 = .ok (.return_, 1) := by decide +kernel
def ff_LE_copyFrom  (x : St) (v0 : Nat) (v1 : Nat) : Option (Unit × St) := (if (Int32.ofNat (ln (rf v1 2))) = (Int32.ofNat (ln (rf v0 2))) then (if spb 0 (Int32.ofNat (ln (rf v0 2))) (ln (rf v1 2)) = true then (if spb 0 (Int32.ofNat (ln (rf v0 2))) (ln (rf v0 2)) = true then st (cpi x (rf v1 2) (ix 0) (rf v0 2) (ix 0) (ix (Int32.ofNat (ln (rf v0 2))))) (fun x_4 => st (si x_4 v0 3 (gi x_4 v1 3)) (fun x_5 => some ((), x_5))) else none) else none) else some ((), x))
set_option maxHeartbeats 4000000 in
set_option maxRecDepth 100000 in
theorem ww_LE_copyFrom {p : Program} {l : Launch} {e : Env} {s : State} {m : MethodId} {args : Array Value} {below : List Frame} {meth : Method} {c : Code} {E : Ev} {A : Nat → Prop} {ad : Nat → Nat} {r : Unit} {x' : St} (C0 : Cx E A RLE bb_LE_copyFrom 2 (none) p s m args meth c) (hap : Ap ad ixC A)  {x : St} {v0 : Nat} {v1 : Nat} (ho_v0 : isO ixC v0 1) (ho_v1 : isO ixC v1 1) (hf : ff_LE_copyFrom x v0 v1 = some (r, x')) {H : Heap} {locs : List Loc} {ls : Array Slot} (hP : Wd E ad ixC x H) (hS : va_S A s.heap H locs) (hl : lv_has ls 2 [(0, .ref (ad v0)), (1, .ref (ad v1))]) : W p l e rm_LE_copyFrom s m args below meth c H locs 0 0 (MQ below (QX E ad ixC A (none) x') args s 0 0 A) (F0 m 0 ls []) := by
  obtain ⟨hx, hb, hml, hr, hown, hts, hlk, hK⟩ := id C0
  have hf : (if (Int32.ofNat (ln (rf v1 2))) = (Int32.ofNat (ln (rf v0 2))) then (if spb 0 (Int32.ofNat (ln (rf v0 2))) (ln (rf v1 2)) = true then (if spb 0 (Int32.ofNat (ln (rf v0 2))) (ln (rf v0 2)) = true then st (cpi x (rf v1 2) (ix 0) (rf v0 2) (ix 0) (ix (Int32.ofNat (ln (rf v0 2))))) (fun x_4 => st (si x_4 v0 3 (gi x_4 v1 3)) (fun x_5 => some ((), x_5))) else none) else none) else some ((), x)) = some (r, x') := hf
  refine lv_aload_n hx hb dd_LE_copyFrom_0 rfl (lv_at hl 1 rfl) ?_
  refine gf_LE_24 C0 hP ho_v1 dd_LE_copyFrom_1 ?_
  refine rlen C0 hP (tp_1_2 ho_v1) dd_LE_copyFrom_4 ?_
  refine lv_aload_n hx hb dd_LE_copyFrom_5 rfl (lv_at hl 0 rfl) ?_
  refine gf_LE_24 C0 hP ho_v0 dd_LE_copyFrom_6 ?_
  refine rlen C0 hP (tp_1_2 ho_v0) dd_LE_copyFrom_9 ?_
  refine lv_icmp_ne (tgt := 39) hx hb dd_LE_copyFrom_10 (by decide) (fun h_1 => ?_) (fun h_1 => ?_)
  · have hf := (if_neg h_1).symm.trans hf
    exact rrV C0 hP hS dd_LE_copyFrom_39 hf
  · have hf := (if_pos h_1).symm.trans hf
    refine lv_aload_n hx hb dd_LE_copyFrom_13 rfl (lv_at hl 1 rfl) ?_
    refine gf_LE_24 C0 hP ho_v1 dd_LE_copyFrom_14 ?_
    refine lv_iconst (v := 0) hx hb dd_LE_copyFrom_17 (by decide) ?_
    refine lv_aload_n hx hb dd_LE_copyFrom_18 rfl (lv_at hl 0 rfl) ?_
    refine gf_LE_24 C0 hP ho_v0 dd_LE_copyFrom_19 ?_
    refine lv_iconst (v := 0) hx hb dd_LE_copyFrom_22 (by decide) ?_
    refine lv_aload_n hx hb dd_LE_copyFrom_23 rfl (lv_at hl 0 rfl) ?_
    refine gf_LE_24 C0 hP ho_v0 dd_LE_copyFrom_24 ?_
    refine rlen C0 hP (tp_1_2 ho_v0) dd_LE_copyFrom_27 ?_
    obtain ⟨h_2, hf⟩ := of_ifb hf
    obtain ⟨h_3, hf⟩ := of_ifb hf
    obtain ⟨x_4, hx_4, hf⟩ := of_st hf
    refine cpI C0 hap hP hS (tp_1_2 ho_v1) (tp_1_2 ho_v0) h_2 h_3 hx_4 hl.1 gw_m_LE_39 (Nat.le_of_ble_eq_true rfl) ⟨Nat.le_of_ble_eq_true rfl, Nat.le_of_ble_eq_true rfl⟩ dd_LE_copyFrom_28 (fun H locs hP hS => ?_)
    refine lv_aload_n hx hb dd_LE_copyFrom_31 rfl (lv_at hl 0 rfl) ?_
    refine lv_aload_n hx hb dd_LE_copyFrom_32 rfl (lv_at hl 1 rfl) ?_
    refine gf_LE_28 C0 hP ho_v1 dd_LE_copyFrom_33 ?_
    obtain ⟨x_5, hx_5, hf⟩ := of_st hf
    refine pf_LE_28 C0 hap hP hS ho_v0 hx_5 dd_LE_copyFrom_36 (fun H locs hP hS => ?_)
    exact rrV C0 hP hS dd_LE_copyFrom_39 hf
theorem cc_LE_copyFrom {l : Launch} {E : Ev} {A : Nat → Prop} {ad : Nat → Nat} (hap : Ap ad ixC A) {x x' : St} {v0 : Nat} {v1 : Nat} {r : Unit} (ho_v0 : isO ixC v0 1) (ho_v1 : isO ixC v1 1) (hf : ff_LE_copyFrom x v0 v1 = some (r, x')) : Met l yy_LE_copyFrom (Cond.code yy_LE_copyFrom bb_LE_copyFrom 2 (none) :: gtb) rm_LE_copyFrom (va_Pc [.ref (ad v0), .ref (ad v1)] (PB E A ad ixC x)) (QX E ad ixC A (none) x') 0 0 A := by
  exact enter (by decide) (Nat.le_of_ble_eq_true rfl) (fun p e s m below meth c ls C0 hP hS hl => ww_LE_copyFrom C0 hap ho_v0 ho_v1 hf hP hS hl)
abbrev rm_LE_mixInto : Room := { frames := 0, cells := 0, slots := 0, locals := 0 }
theorem dd_LE_mixInto_0 : decode bb_LE_mixInto 0 = .ok (.lload_n 1, 1) := by decide +kernel
theorem dd_LE_mixInto_1 : decode bb_LE_mixInto 1 = .ok (.lstore_n 3, 1) := by decide +kernel
theorem dd_LE_mixInto_2 : decode bb_LE_mixInto 2 = .ok (.iconst 0, 1) := by decide +kernel
theorem dd_LE_mixInto_3 : decode bb_LE_mixInto 3 = .ok (.istore 5, 2) := by decide +kernel
theorem dd_LE_mixInto_5 : decode bb_LE_mixInto 5 = .ok (.iload 5, 2) := by decide +kernel
theorem dd_LE_mixInto_7 : decode bb_LE_mixInto 7 = .ok (.aload_n 0, 1) := by decide +kernel
theorem dd_LE_mixInto_8 : decode bb_LE_mixInto 8 = .ok (.getfield 28, 3) := by decide +kernel
theorem dd_LE_mixInto_11 : decode bb_LE_mixInto 11 = .ok (.aload_n 0, 1) := by decide +kernel
theorem dd_LE_mixInto_12 : decode bb_LE_mixInto 12 = .ok (.getfield 21, 3) := by decide +kernel
theorem dd_LE_mixInto_15 : decode bb_LE_mixInto 15 = .ok (.imul, 1) := by decide +kernel
theorem dd_LE_mixInto_16 : decode bb_LE_mixInto 16 = .ok (.if_icmp .ge 24, 3) := by decide +kernel
theorem dd_LE_mixInto_19 : decode bb_LE_mixInto 19 = .ok (.ldc2_w 45, 3) := by decide +kernel
theorem dd_LE_mixInto_22 : decode bb_LE_mixInto 22 = .ok (.lload_n 3, 1) := by decide +kernel
theorem dd_LE_mixInto_23 : decode bb_LE_mixInto 23 = .ok (.lmul, 1) := by decide +kernel
theorem dd_LE_mixInto_24 : decode bb_LE_mixInto 24 = .ok (.aload_n 0, 1) := by decide +kernel
theorem dd_LE_mixInto_25 : decode bb_LE_mixInto 25 = .ok (.getfield 24, 3) := by decide +kernel
theorem dd_LE_mixInto_28 : decode bb_LE_mixInto 28 = .ok (.iload 5, 2) := by decide +kernel
theorem dd_LE_mixInto_30 : decode bb_LE_mixInto 30 = .ok (.iaload, 1) := by decide +kernel
theorem dd_LE_mixInto_31 : decode bb_LE_mixInto 31 = .ok (.i2l, 1) := by decide +kernel
theorem dd_LE_mixInto_32 : decode bb_LE_mixInto 32 = .ok (.ladd, 1) := by decide +kernel
theorem dd_LE_mixInto_33 : decode bb_LE_mixInto 33 = .ok (.lstore_n 3, 1) := by decide +kernel
theorem dd_LE_mixInto_34 : decode bb_LE_mixInto 34 = .ok (.iinc 5 1, 3) := by decide +kernel
theorem dd_LE_mixInto_37 : decode bb_LE_mixInto 37 = .ok (.goto (-32), 3) := by decide +kernel
theorem dd_LE_mixInto_40 : decode bb_LE_mixInto 40 = .ok (.lload_n 3, 1) := by decide +kernel
theorem dd_LE_mixInto_41 : decode bb_LE_mixInto 41 = .ok (.lreturn, 1) := by decide +kernel
def ff_LE_mixInto_5  : Nat → St → Nat → Int64 → Int32 → Option (Int64 × St)
  | 0, _, _, _, _ => none
  | n + 1, x, v0, v3, v5 => (if ((gi x v0 3) * (gi x v0 1)) ≤ v5 then some (v3, x) else (if ixb v5 (ln (rf v0 2)) = true then lj ((31 * v3) + ((gi x (rf v0 2) (ix v5)).toInt64)) (fun u_3 => ff_LE_mixInto_5 n x v0 u_3 (v5 + 1)) else none))
def ff_LE_mixInto  (x : St) (v0 : Nat) (v1 : Int64) : Option (Int64 × St) := ff_LE_mixInto_5 FU x v0 v1 0
set_option maxHeartbeats 4000000 in
set_option maxRecDepth 100000 in
theorem ww_LE_mixInto_5 {p : Program} {l : Launch} {e : Env} {s : State} {m : MethodId} {args : Array Value} {below : List Frame} {meth : Method} {c : Code} {E : Ev} {A : Nat → Prop} {ad : Nat → Nat} {r : Int64} {x' : St} (C0 : Cx E A RLE bb_LE_mixInto 6 (some .long) p s m args meth c) (hap : Ap ad ixC A)  : ∀ (n : Nat), ∀ (x : St) (v0 : Nat) (v3 : Int64) (v5 : Int32), (isO ixC v0 1) → ff_LE_mixInto_5 n x v0 v3 v5 = some (r, x') → ∀ (H : Heap) (locs : List Loc) (ls : Array Slot), Wd E ad ixC x H → va_S A s.heap H locs → lv_has ls 6 [(0, .ref (ad v0)), (3, .long v3), (5, .int v5)] → W p l e rm_LE_mixInto s m args below meth c H locs 0 0 (MQ below (QX E ad ixC A (some (.long r)) x') args s 0 0 A) (F0 m 5 ls []) := by
  obtain ⟨hx, hb, hml, hr, hown, hts, hlk, hK⟩ := id C0
  intro n
  induction n with
  | zero => intro x v0 v3 v5 ho_v0 hf; exact of_no hf
  | succ n ih =>
    intro x v0 v3 v5 ho_v0 hf H locs ls hP hS hl
    have hf : (if ((gi x v0 3) * (gi x v0 1)) ≤ v5 then some (v3, x) else (if ixb v5 (ln (rf v0 2)) = true then lj ((31 * v3) + ((gi x (rf v0 2) (ix v5)).toInt64)) (fun u_3 => ff_LE_mixInto_5 n x v0 u_3 (v5 + 1)) else none)) = some (r, x') := hf
    refine lv_iload hx hb dd_LE_mixInto_5 (lv_at hl 2 rfl) ?_
    refine lv_aload_n hx hb dd_LE_mixInto_7 rfl (lv_at hl 0 rfl) ?_
    refine gf_LE_28 C0 hP ho_v0 dd_LE_mixInto_8 ?_
    refine lv_aload_n hx hb dd_LE_mixInto_11 rfl (lv_at hl 0 rfl) ?_
    refine gf_LE_21 C0 hP ho_v0 dd_LE_mixInto_12 ?_
    refine lv_imul hx hb dd_LE_mixInto_15 ?_
    refine lv_icmp_ge (tgt := 40) hx hb dd_LE_mixInto_16 (by decide) (fun h_1 => ?_) (fun h_1 => ?_)
    · have hf := (if_pos h_1).symm.trans hf
      refine lv_lload_n hx hb dd_LE_mixInto_40 rfl (lv_at hl 1 rfl) ?_
      exact rrL C0 hP hS dd_LE_mixInto_41 hf
    · have hf := (if_neg h_1).symm.trans hf
      refine lv_ldc2 (v := 31) hx hb hown (hts _ gw_k_LE_45) dd_LE_mixInto_19 ?_
      refine lv_lload_n hx hb dd_LE_mixInto_22 rfl (lv_at hl 1 rfl) ?_
      refine lv_lmul hx hb dd_LE_mixInto_23 ?_
      refine lv_aload_n hx hb dd_LE_mixInto_24 rfl (lv_at hl 0 rfl) ?_
      refine gf_LE_24 C0 hP ho_v0 dd_LE_mixInto_25 ?_
      refine lv_iload hx hb dd_LE_mixInto_28 (lv_at hl 2 rfl) ?_
      obtain ⟨h_2, hf⟩ := of_ifb hf
      refine raI C0 hP (tp_1_2 ho_v0) h_2 dd_LE_mixInto_30 ?_
      refine lv_i2l hx hb dd_LE_mixInto_31 rfl ?_
      refine lv_ladd hx hb dd_LE_mixInto_32 ?_
      obtain ⟨u_3, eu_3, hf⟩ := of_lj hf
      refine tpj eu_3 ?_
      refine lv_lstore_n (lv' := [(3, .long u_3), (0, .ref (ad v0)), (5, .int v5)]) hx hb dd_LE_mixInto_33 rfl hl (by decide) rfl (fun ls hl => ?_)
      refine lv_iinc (v := v5 + 1) (lv' := [(5, .int (v5 + 1)), (3, .long u_3), (0, .ref (ad v0))]) hx hb dd_LE_mixInto_34 hl (k := 2) rfl rfl (by decide) rfl (fun ls hl => ?_)
      refine lv_goto (tgt := 5) hx hb dd_LE_mixInto_37 (by decide) ?_
      exact ih x v0 u_3 (v5 + 1) ho_v0 hf _ _ _ hP hS (lv_sub hl [2, 1, 0] rfl)
set_option maxHeartbeats 4000000 in
set_option maxRecDepth 100000 in
theorem ww_LE_mixInto {p : Program} {l : Launch} {e : Env} {s : State} {m : MethodId} {args : Array Value} {below : List Frame} {meth : Method} {c : Code} {E : Ev} {A : Nat → Prop} {ad : Nat → Nat} {r : Int64} {x' : St} (C0 : Cx E A RLE bb_LE_mixInto 6 (some .long) p s m args meth c) (hap : Ap ad ixC A)  {x : St} {v0 : Nat} {v1 : Int64} (ho_v0 : isO ixC v0 1) (hf : ff_LE_mixInto x v0 v1 = some (r, x')) {H : Heap} {locs : List Loc} {ls : Array Slot} (hP : Wd E ad ixC x H) (hS : va_S A s.heap H locs) (hl : lv_has ls 6 [(0, .ref (ad v0)), (1, .long v1)]) : W p l e rm_LE_mixInto s m args below meth c H locs 0 0 (MQ below (QX E ad ixC A (some (.long r)) x') args s 0 0 A) (F0 m 0 ls []) := by
  obtain ⟨hx, hb, hml, hr, hown, hts, hlk, hK⟩ := id C0
  have hf : ff_LE_mixInto_5 FU x v0 v1 0 = some (r, x') := hf
  refine lv_lload_n hx hb dd_LE_mixInto_0 rfl (lv_at hl 1 rfl) ?_
  refine lv_lstore_n (lv' := [(3, .long v1), (0, .ref (ad v0)), (1, .long v1)]) hx hb dd_LE_mixInto_1 rfl hl (by decide) rfl (fun ls hl => ?_)
  refine lv_iconst (v := 0) hx hb dd_LE_mixInto_2 (by decide) ?_
  refine lv_istore (lv' := [(5, .int 0), (3, .long v1), (0, .ref (ad v0)), (1, .long v1)]) hx hb dd_LE_mixInto_3 hl (by decide) rfl (fun ls hl => ?_)
  exact ww_LE_mixInto_5 C0 hap  FU x v0 v1 0 ho_v0 hf _ _ _ hP hS (lv_sub hl [2, 1, 0] rfl)
theorem cc_LE_mixInto {l : Launch} {E : Ev} {A : Nat → Prop} {ad : Nat → Nat} (hap : Ap ad ixC A) {x x' : St} {v0 : Nat} {v1 : Int64} {r : Int64} (ho_v0 : isO ixC v0 1) (hf : ff_LE_mixInto x v0 v1 = some (r, x')) : Met l yy_LE_mixInto (Cond.code yy_LE_mixInto bb_LE_mixInto 6 (some .long) :: gtb) rm_LE_mixInto (va_Pc [.ref (ad v0), .long v1] (PB E A ad ixC x)) (QX E ad ixC A (some (.long r)) x') 0 0 A := by
  exact enter (by decide) (Nat.le_of_ble_eq_true rfl) (fun p e s m below meth c ls C0 hP hS hl => ww_LE_mixInto C0 hap ho_v0 hf hP hS hl)
abbrev rm_AR_fillJ : Room := { frames := 0, cells := 0, slots := 0, locals := 0 }
theorem dd_AR_fillJ_0 : decode bb_AR_fillJ 0 = .ok (.iconst 0, 1) := by decide +kernel
theorem dd_AR_fillJ_1 : decode bb_AR_fillJ 1 = .ok (.istore_n 3, 1) := by decide +kernel
theorem dd_AR_fillJ_2 : decode bb_AR_fillJ 2 = .ok (.aload_n 0, 1) := by decide +kernel
theorem dd_AR_fillJ_3 : decode bb_AR_fillJ 3 = .ok (.arraylength, 1) := by decide +kernel
theorem dd_AR_fillJ_4 : decode bb_AR_fillJ 4 = .ok (.istore 4, 2) := by decide +kernel
theorem dd_AR_fillJ_6 : decode bb_AR_fillJ 6 = .ok (.iload_n 3, 1) := by decide +kernel
theorem dd_AR_fillJ_7 : decode bb_AR_fillJ 7 = .ok (.iload 4, 2) := by decide +kernel
theorem dd_AR_fillJ_9 : decode bb_AR_fillJ 9 = .ok (.if_icmp .ge 13, 3) := by decide +kernel
theorem dd_AR_fillJ_12 : decode bb_AR_fillJ 12 = .ok (.aload_n 0, 1) := by decide +kernel
theorem dd_AR_fillJ_13 : decode bb_AR_fillJ 13 = .ok (.iload_n 3, 1) := by decide +kernel
theorem dd_AR_fillJ_14 : decode bb_AR_fillJ 14 = .ok (.lload_n 1, 1) := by decide +kernel
theorem dd_AR_fillJ_15 : decode bb_AR_fillJ 15 = .ok (.lastore, 1) := by decide +kernel
theorem dd_AR_fillJ_16 : decode bb_AR_fillJ 16 = .ok (.iinc 3 1, 3) := by decide +kernel
theorem dd_AR_fillJ_19 : decode bb_AR_fillJ 19 = .ok (.goto (-13), 3) := by decide +kernel
theorem dd_AR_fillJ_22 : decode bb_AR_fillJ 22 = .ok (.return_, 1) := by decide +kernel
def ff_AR_fillJ_6  : Nat → St → Nat → Int64 → Int32 → Int32 → Option (Unit × St)
  | 0, _, _, _, _, _ => none
  | n + 1, x, v0, v1, v3, v4 => (if v4 ≤ v3 then some ((), x) else (if ixb v3 (ln v0) = true then st (sl x v0 (ix v3) v1) (fun x_3 => ff_AR_fillJ_6 n x_3 v0 v1 (v3 + 1) v4) else none))
def ff_AR_fillJ  (x : St) (v0 : Nat) (v1 : Int64) : Option (Unit × St) := ff_AR_fillJ_6 FU x v0 v1 0 (Int32.ofNat (ln v0))
set_option maxHeartbeats 4000000 in
set_option maxRecDepth 100000 in
theorem ww_AR_fillJ_6 {p : Program} {l : Launch} {e : Env} {s : State} {m : MethodId} {args : Array Value} {below : List Frame} {meth : Method} {c : Code} {E : Ev} {A : Nat → Prop} {ad : Nat → Nat} {r : Unit} {x' : St} (C0 : Cx E A RAR bb_AR_fillJ 5 (none) p s m args meth c) (hap : Ap ad ixC A)  : ∀ (n : Nat), ∀ (x : St) (v0 : Nat) (v1 : Int64) (v3 : Int32) (v4 : Int32), (isO ixC v0 23) → ff_AR_fillJ_6 n x v0 v1 v3 v4 = some (r, x') → ∀ (H : Heap) (locs : List Loc) (ls : Array Slot), Wd E ad ixC x H → va_S A s.heap H locs → lv_has ls 5 [(0, .ref (ad v0)), (1, .long v1), (3, .int v3), (4, .int v4)] → W p l e rm_AR_fillJ s m args below meth c H locs 0 0 (MQ below (QX E ad ixC A (none) x') args s 0 0 A) (F0 m 6 ls []) := by
  obtain ⟨hx, hb, hml, hr, hown, hts, hlk, hK⟩ := id C0
  intro n
  induction n with
  | zero => intro x v0 v1 v3 v4 ho_v0 hf; exact of_no hf
  | succ n ih =>
    intro x v0 v1 v3 v4 ho_v0 hf H locs ls hP hS hl
    have hf : (if v4 ≤ v3 then some ((), x) else (if ixb v3 (ln v0) = true then st (sl x v0 (ix v3) v1) (fun x_3 => ff_AR_fillJ_6 n x_3 v0 v1 (v3 + 1) v4) else none)) = some (r, x') := hf
    refine lv_iload_n hx hb dd_AR_fillJ_6 rfl (lv_at hl 2 rfl) ?_
    refine lv_iload hx hb dd_AR_fillJ_7 (lv_at hl 3 rfl) ?_
    refine lv_icmp_ge (tgt := 22) hx hb dd_AR_fillJ_9 (by decide) (fun h_1 => ?_) (fun h_1 => ?_)
    · have hf := (if_pos h_1).symm.trans hf
      exact rrV C0 hP hS dd_AR_fillJ_22 hf
    · have hf := (if_neg h_1).symm.trans hf
      refine lv_aload_n hx hb dd_AR_fillJ_12 rfl (lv_at hl 0 rfl) ?_
      refine lv_iload_n hx hb dd_AR_fillJ_13 rfl (lv_at hl 2 rfl) ?_
      refine lv_lload_n hx hb dd_AR_fillJ_14 rfl (lv_at hl 1 rfl) ?_
      obtain ⟨h_2, hf⟩ := of_ifb hf
      obtain ⟨x_3, hx_3, hf⟩ := of_st hf
      refine sL C0 hap hP hS ho_v0 h_2 hx_3 dd_AR_fillJ_15 (fun H locs hP hS => ?_)
      refine lv_iinc (v := v3 + 1) (lv' := [(3, .int (v3 + 1)), (0, .ref (ad v0)), (1, .long v1), (4, .int v4)]) hx hb dd_AR_fillJ_16 hl (k := 2) rfl rfl (by decide) rfl (fun ls hl => ?_)
      refine lv_goto (tgt := 6) hx hb dd_AR_fillJ_19 (by decide) ?_
      exact ih x_3 v0 v1 (v3 + 1) v4 ho_v0 hf _ _ _ hP hS (lv_sub hl [1, 2, 0, 3] rfl)
set_option maxHeartbeats 4000000 in
set_option maxRecDepth 100000 in
theorem ww_AR_fillJ {p : Program} {l : Launch} {e : Env} {s : State} {m : MethodId} {args : Array Value} {below : List Frame} {meth : Method} {c : Code} {E : Ev} {A : Nat → Prop} {ad : Nat → Nat} {r : Unit} {x' : St} (C0 : Cx E A RAR bb_AR_fillJ 5 (none) p s m args meth c) (hap : Ap ad ixC A)  {x : St} {v0 : Nat} {v1 : Int64} (ho_v0 : isO ixC v0 23) (hf : ff_AR_fillJ x v0 v1 = some (r, x')) {H : Heap} {locs : List Loc} {ls : Array Slot} (hP : Wd E ad ixC x H) (hS : va_S A s.heap H locs) (hl : lv_has ls 5 [(0, .ref (ad v0)), (1, .long v1)]) : W p l e rm_AR_fillJ s m args below meth c H locs 0 0 (MQ below (QX E ad ixC A (none) x') args s 0 0 A) (F0 m 0 ls []) := by
  obtain ⟨hx, hb, hml, hr, hown, hts, hlk, hK⟩ := id C0
  have hf : ff_AR_fillJ_6 FU x v0 v1 0 (Int32.ofNat (ln v0)) = some (r, x') := hf
  refine lv_iconst (v := 0) hx hb dd_AR_fillJ_0 (by decide) ?_
  refine lv_istore_n (lv' := [(3, .int 0), (0, .ref (ad v0)), (1, .long v1)]) hx hb dd_AR_fillJ_1 rfl hl (by decide) rfl (fun ls hl => ?_)
  refine lv_aload_n hx hb dd_AR_fillJ_2 rfl (lv_at hl 1 rfl) ?_
  refine rlenL C0 hP ho_v0 dd_AR_fillJ_3 ?_
  refine lv_istore (lv' := [(4, .int (Int32.ofNat (ln v0))), (3, .int 0), (0, .ref (ad v0)), (1, .long v1)]) hx hb dd_AR_fillJ_4 hl (by decide) rfl (fun ls hl => ?_)
  exact ww_AR_fillJ_6 C0 hap  FU x v0 v1 0 (Int32.ofNat (ln v0)) ho_v0 hf _ _ _ hP hS (lv_sub hl [2, 3, 1, 0] rfl)
theorem cc_AR_fillJ {l : Launch} {E : Ev} {A : Nat → Prop} {ad : Nat → Nat} (hap : Ap ad ixC A) {x x' : St} {v0 : Nat} {v1 : Int64} {r : Unit} (ho_v0 : isO ixC v0 23) (hf : ff_AR_fillJ x v0 v1 = some (r, x')) : Met l yy_AR_fillJ (Cond.code yy_AR_fillJ bb_AR_fillJ 5 (none) :: gtb) rm_AR_fillJ (va_Pc [.ref (ad v0), .long v1] (PB E A ad ixC x)) (QX E ad ixC A (none) x') 0 0 A := by
  exact enter (by decide) (Nat.le_of_ble_eq_true rfl) (fun p e s m below meth c ls C0 hP hS hl => ww_AR_fillJ C0 hap ho_v0 hf hP hS hl)
abbrev rm_IN_bitCount : Room := { frames := 0, cells := 0, slots := 0, locals := 0 }
theorem dd_IN_bitCount_0 : decode bb_IN_bitCount 0 = .ok (.iload_n 0, 1) := by decide +kernel
theorem dd_IN_bitCount_1 : decode bb_IN_bitCount 1 = .ok (.iload_n 0, 1) := by decide +kernel
theorem dd_IN_bitCount_2 : decode bb_IN_bitCount 2 = .ok (.iconst 1, 1) := by decide +kernel
theorem dd_IN_bitCount_3 : decode bb_IN_bitCount 3 = .ok (.iushr, 1) := by decide +kernel
theorem dd_IN_bitCount_4 : decode bb_IN_bitCount 4 = .ok (.ldc_w 265, 3) := by decide +kernel
theorem dd_IN_bitCount_7 : decode bb_IN_bitCount 7 = .ok (.iand, 1) := by decide +kernel
theorem dd_IN_bitCount_8 : decode bb_IN_bitCount 8 = .ok (.isub, 1) := by decide +kernel
theorem dd_IN_bitCount_9 : decode bb_IN_bitCount 9 = .ok (.istore_n 0, 1) := by decide +kernel
theorem dd_IN_bitCount_10 : decode bb_IN_bitCount 10 = .ok (.iload_n 0, 1) := by decide +kernel
theorem dd_IN_bitCount_11 : decode bb_IN_bitCount 11 = .ok (.ldc_w 266, 3) := by decide +kernel
theorem dd_IN_bitCount_14 : decode bb_IN_bitCount 14 = .ok (.iand, 1) := by decide +kernel
theorem dd_IN_bitCount_15 : decode bb_IN_bitCount 15 = .ok (.iload_n 0, 1) := by decide +kernel
theorem dd_IN_bitCount_16 : decode bb_IN_bitCount 16 = .ok (.iconst 2, 1) := by decide +kernel
theorem dd_IN_bitCount_17 : decode bb_IN_bitCount 17 = .ok (.iushr, 1) := by decide +kernel
theorem dd_IN_bitCount_18 : decode bb_IN_bitCount 18 = .ok (.ldc_w 266, 3) := by decide +kernel
theorem dd_IN_bitCount_21 : decode bb_IN_bitCount 21 = .ok (.iand, 1) := by decide +kernel
theorem dd_IN_bitCount_22 : decode bb_IN_bitCount 22 = .ok (.iadd, 1) := by decide +kernel
theorem dd_IN_bitCount_23 : decode bb_IN_bitCount 23 = .ok (.istore_n 0, 1) := by decide +kernel
theorem dd_IN_bitCount_24 : decode bb_IN_bitCount 24 = .ok (.iload_n 0, 1) := by decide +kernel
theorem dd_IN_bitCount_25 : decode bb_IN_bitCount 25 = .ok (.iload_n 0, 1) := by decide +kernel
theorem dd_IN_bitCount_26 : decode bb_IN_bitCount 26 = .ok (.iconst 4, 1) := by decide +kernel
theorem dd_IN_bitCount_27 : decode bb_IN_bitCount 27 = .ok (.iushr, 1) := by decide +kernel
theorem dd_IN_bitCount_28 : decode bb_IN_bitCount 28 = .ok (.iadd, 1) := by decide +kernel
theorem dd_IN_bitCount_29 : decode bb_IN_bitCount 29 = .ok (.ldc_w 267, 3) := by decide +kernel
theorem dd_IN_bitCount_32 : decode bb_IN_bitCount 32 = .ok (.iand, 1) := by decide +kernel
theorem dd_IN_bitCount_33 : decode bb_IN_bitCount 33 = .ok (.istore_n 0, 1) := by decide +kernel
theorem dd_IN_bitCount_34 : decode bb_IN_bitCount 34 = .ok (.iload_n 0, 1) := by decide +kernel
theorem dd_IN_bitCount_35 : decode bb_IN_bitCount 35 = .ok (.iload_n 0, 1) := by decide +kernel
theorem dd_IN_bitCount_36 : decode bb_IN_bitCount 36 = .ok (.bipush 8, 2) := by decide +kernel
theorem dd_IN_bitCount_38 : decode bb_IN_bitCount 38 = .ok (.iushr, 1) := by decide +kernel
theorem dd_IN_bitCount_39 : decode bb_IN_bitCount 39 = .ok (.iadd, 1) := by decide +kernel
theorem dd_IN_bitCount_40 : decode bb_IN_bitCount 40 = .ok (.istore_n 0, 1) := by decide +kernel
theorem dd_IN_bitCount_41 : decode bb_IN_bitCount 41 = .ok (.iload_n 0, 1) := by decide +kernel
theorem dd_IN_bitCount_42 : decode bb_IN_bitCount 42 = .ok (.iload_n 0, 1) := by decide +kernel
theorem dd_IN_bitCount_43 : decode bb_IN_bitCount 43 = .ok (.bipush 16, 2) := by decide +kernel
theorem dd_IN_bitCount_45 : decode bb_IN_bitCount 45 = .ok (.iushr, 1) := by decide +kernel
theorem dd_IN_bitCount_46 : decode bb_IN_bitCount 46 = .ok (.iadd, 1) := by decide +kernel
theorem dd_IN_bitCount_47 : decode bb_IN_bitCount 47 = .ok (.istore_n 0, 1) := by decide +kernel
theorem dd_IN_bitCount_48 : decode bb_IN_bitCount 48 = .ok (.iload_n 0, 1) := by decide +kernel
theorem dd_IN_bitCount_49 : decode bb_IN_bitCount 49 = .ok (.bipush 63, 2) := by decide +kernel
theorem dd_IN_bitCount_51 : decode bb_IN_bitCount 51 = .ok (.iand, 1) := by decide +kernel
theorem dd_IN_bitCount_52 : decode bb_IN_bitCount 52 = .ok (.ireturn, 1) := by decide +kernel
def ff_IN_bitCount_48  (x : St) (v0 : Int32) : Option (Int32 × St) := some (v0 &&& 63, x)
def ff_IN_bitCount_41  (x : St) (v0 : Int32) : Option (Int32 × St) := li (v0 + ((v0.toUInt32 >>> ((16 : Int32).toUInt32 &&& Int32.toUInt32 31)).toInt32)) (fun u_5 => ff_IN_bitCount_48 x u_5)
def ff_IN_bitCount_34  (x : St) (v0 : Int32) : Option (Int32 × St) := li (v0 + ((v0.toUInt32 >>> ((8 : Int32).toUInt32 &&& Int32.toUInt32 31)).toInt32)) (fun u_4 => ff_IN_bitCount_41 x u_4)
def ff_IN_bitCount_24  (x : St) (v0 : Int32) : Option (Int32 × St) := li ((v0 + ((v0.toUInt32 >>> ((4 : Int32).toUInt32 &&& Int32.toUInt32 31)).toInt32)) &&& 252645135) (fun u_3 => ff_IN_bitCount_34 x u_3)
def ff_IN_bitCount_10  (x : St) (v0 : Int32) : Option (Int32 × St) := li ((v0 &&& 858993459) + (((v0.toUInt32 >>> ((2 : Int32).toUInt32 &&& Int32.toUInt32 31)).toInt32) &&& 858993459)) (fun u_2 => ff_IN_bitCount_24 x u_2)
def ff_IN_bitCount  (x : St) (v0 : Int32) : Option (Int32 × St) := li (v0 - (((v0.toUInt32 >>> ((1 : Int32).toUInt32 &&& Int32.toUInt32 31)).toInt32) &&& 1431655765)) (fun u_1 => ff_IN_bitCount_10 x u_1)
set_option maxHeartbeats 4000000 in
set_option maxRecDepth 100000 in
theorem ww_IN_bitCount_48 {p : Program} {l : Launch} {e : Env} {s : State} {m : MethodId} {args : Array Value} {below : List Frame} {meth : Method} {c : Code} {E : Ev} {A : Nat → Prop} {ad : Nat → Nat} {r : Int32} {x' : St} (C0 : Cx E A RIN bb_IN_bitCount 1 (some .int) p s m args meth c) (hap : Ap ad ixC A)  {x : St} {v0 : Int32}  (hf : ff_IN_bitCount_48 x v0 = some (r, x')) {H : Heap} {locs : List Loc} {ls : Array Slot} (hP : Wd E ad ixC x H) (hS : va_S A s.heap H locs) (hl : lv_has ls 1 [(0, .int v0)]) : W p l e rm_IN_bitCount s m args below meth c H locs 0 0 (MQ below (QX E ad ixC A (some (.int r)) x') args s 0 0 A) (F0 m 48 ls []) := by
  obtain ⟨hx, hb, hml, hr, hown, hts, hlk, hK⟩ := id C0
  have hf : some (v0 &&& 63, x) = some (r, x') := hf
  refine lv_iload_n hx hb dd_IN_bitCount_48 rfl (lv_at hl 0 rfl) ?_
  refine lv_bipush (v := 63) hx hb dd_IN_bitCount_49 (by decide) ?_
  refine lv_iand hx hb dd_IN_bitCount_51 ?_
  exact rrI C0 hP hS dd_IN_bitCount_52 hf
set_option maxHeartbeats 4000000 in
set_option maxRecDepth 100000 in
theorem ww_IN_bitCount_41 {p : Program} {l : Launch} {e : Env} {s : State} {m : MethodId} {args : Array Value} {below : List Frame} {meth : Method} {c : Code} {E : Ev} {A : Nat → Prop} {ad : Nat → Nat} {r : Int32} {x' : St} (C0 : Cx E A RIN bb_IN_bitCount 1 (some .int) p s m args meth c) (hap : Ap ad ixC A)  {x : St} {v0 : Int32}  (hf : ff_IN_bitCount_41 x v0 = some (r, x')) {H : Heap} {locs : List Loc} {ls : Array Slot} (hP : Wd E ad ixC x H) (hS : va_S A s.heap H locs) (hl : lv_has ls 1 [(0, .int v0)]) : W p l e rm_IN_bitCount s m args below meth c H locs 0 0 (MQ below (QX E ad ixC A (some (.int r)) x') args s 0 0 A) (F0 m 41 ls []) := by
  obtain ⟨hx, hb, hml, hr, hown, hts, hlk, hK⟩ := id C0
  have hf : li (v0 + ((v0.toUInt32 >>> ((16 : Int32).toUInt32 &&& Int32.toUInt32 31)).toInt32)) (fun u_5 => ff_IN_bitCount_48 x u_5) = some (r, x') := hf
  refine lv_iload_n hx hb dd_IN_bitCount_41 rfl (lv_at hl 0 rfl) ?_
  refine lv_iload_n hx hb dd_IN_bitCount_42 rfl (lv_at hl 0 rfl) ?_
  refine lv_bipush (v := 16) hx hb dd_IN_bitCount_43 (by decide) ?_
  refine lv_iushr hx hb dd_IN_bitCount_45 rfl ?_
  refine lv_iadd hx hb dd_IN_bitCount_46 ?_
  obtain ⟨u_5, eu_5, hf⟩ := of_li hf
  refine tpi eu_5 ?_
  refine lv_istore_n (lv' := [(0, .int u_5)]) hx hb dd_IN_bitCount_47 rfl hl (by decide) rfl (fun ls hl => ?_)
  exact ww_IN_bitCount_48 C0 hap   hf hP hS (lv_sub hl [0] rfl)
set_option maxHeartbeats 4000000 in
set_option maxRecDepth 100000 in
theorem ww_IN_bitCount_34 {p : Program} {l : Launch} {e : Env} {s : State} {m : MethodId} {args : Array Value} {below : List Frame} {meth : Method} {c : Code} {E : Ev} {A : Nat → Prop} {ad : Nat → Nat} {r : Int32} {x' : St} (C0 : Cx E A RIN bb_IN_bitCount 1 (some .int) p s m args meth c) (hap : Ap ad ixC A)  {x : St} {v0 : Int32}  (hf : ff_IN_bitCount_34 x v0 = some (r, x')) {H : Heap} {locs : List Loc} {ls : Array Slot} (hP : Wd E ad ixC x H) (hS : va_S A s.heap H locs) (hl : lv_has ls 1 [(0, .int v0)]) : W p l e rm_IN_bitCount s m args below meth c H locs 0 0 (MQ below (QX E ad ixC A (some (.int r)) x') args s 0 0 A) (F0 m 34 ls []) := by
  obtain ⟨hx, hb, hml, hr, hown, hts, hlk, hK⟩ := id C0
  have hf : li (v0 + ((v0.toUInt32 >>> ((8 : Int32).toUInt32 &&& Int32.toUInt32 31)).toInt32)) (fun u_4 => ff_IN_bitCount_41 x u_4) = some (r, x') := hf
  refine lv_iload_n hx hb dd_IN_bitCount_34 rfl (lv_at hl 0 rfl) ?_
  refine lv_iload_n hx hb dd_IN_bitCount_35 rfl (lv_at hl 0 rfl) ?_
  refine lv_bipush (v := 8) hx hb dd_IN_bitCount_36 (by decide) ?_
  refine lv_iushr hx hb dd_IN_bitCount_38 rfl ?_
  refine lv_iadd hx hb dd_IN_bitCount_39 ?_
  obtain ⟨u_4, eu_4, hf⟩ := of_li hf
  refine tpi eu_4 ?_
  refine lv_istore_n (lv' := [(0, .int u_4)]) hx hb dd_IN_bitCount_40 rfl hl (by decide) rfl (fun ls hl => ?_)
  exact ww_IN_bitCount_41 C0 hap   hf hP hS (lv_sub hl [0] rfl)
set_option maxHeartbeats 4000000 in
set_option maxRecDepth 100000 in
theorem ww_IN_bitCount_24 {p : Program} {l : Launch} {e : Env} {s : State} {m : MethodId} {args : Array Value} {below : List Frame} {meth : Method} {c : Code} {E : Ev} {A : Nat → Prop} {ad : Nat → Nat} {r : Int32} {x' : St} (C0 : Cx E A RIN bb_IN_bitCount 1 (some .int) p s m args meth c) (hap : Ap ad ixC A)  {x : St} {v0 : Int32}  (hf : ff_IN_bitCount_24 x v0 = some (r, x')) {H : Heap} {locs : List Loc} {ls : Array Slot} (hP : Wd E ad ixC x H) (hS : va_S A s.heap H locs) (hl : lv_has ls 1 [(0, .int v0)]) : W p l e rm_IN_bitCount s m args below meth c H locs 0 0 (MQ below (QX E ad ixC A (some (.int r)) x') args s 0 0 A) (F0 m 24 ls []) := by
  obtain ⟨hx, hb, hml, hr, hown, hts, hlk, hK⟩ := id C0
  have hf : li ((v0 + ((v0.toUInt32 >>> ((4 : Int32).toUInt32 &&& Int32.toUInt32 31)).toInt32)) &&& 252645135) (fun u_3 => ff_IN_bitCount_34 x u_3) = some (r, x') := hf
  refine lv_iload_n hx hb dd_IN_bitCount_24 rfl (lv_at hl 0 rfl) ?_
  refine lv_iload_n hx hb dd_IN_bitCount_25 rfl (lv_at hl 0 rfl) ?_
  refine lv_iconst (v := 4) hx hb dd_IN_bitCount_26 (by decide) ?_
  refine lv_iushr hx hb dd_IN_bitCount_27 rfl ?_
  refine lv_iadd hx hb dd_IN_bitCount_28 ?_
  refine lv_ldcw (v := 252645135) hx hb hown (hts _ gw_k_IN_267) dd_IN_bitCount_29 ?_
  refine lv_iand hx hb dd_IN_bitCount_32 ?_
  obtain ⟨u_3, eu_3, hf⟩ := of_li hf
  refine tpi eu_3 ?_
  refine lv_istore_n (lv' := [(0, .int u_3)]) hx hb dd_IN_bitCount_33 rfl hl (by decide) rfl (fun ls hl => ?_)
  exact ww_IN_bitCount_34 C0 hap   hf hP hS (lv_sub hl [0] rfl)
set_option maxHeartbeats 4000000 in
set_option maxRecDepth 100000 in
theorem ww_IN_bitCount_10 {p : Program} {l : Launch} {e : Env} {s : State} {m : MethodId} {args : Array Value} {below : List Frame} {meth : Method} {c : Code} {E : Ev} {A : Nat → Prop} {ad : Nat → Nat} {r : Int32} {x' : St} (C0 : Cx E A RIN bb_IN_bitCount 1 (some .int) p s m args meth c) (hap : Ap ad ixC A)  {x : St} {v0 : Int32}  (hf : ff_IN_bitCount_10 x v0 = some (r, x')) {H : Heap} {locs : List Loc} {ls : Array Slot} (hP : Wd E ad ixC x H) (hS : va_S A s.heap H locs) (hl : lv_has ls 1 [(0, .int v0)]) : W p l e rm_IN_bitCount s m args below meth c H locs 0 0 (MQ below (QX E ad ixC A (some (.int r)) x') args s 0 0 A) (F0 m 10 ls []) := by
  obtain ⟨hx, hb, hml, hr, hown, hts, hlk, hK⟩ := id C0
  have hf : li ((v0 &&& 858993459) + (((v0.toUInt32 >>> ((2 : Int32).toUInt32 &&& Int32.toUInt32 31)).toInt32) &&& 858993459)) (fun u_2 => ff_IN_bitCount_24 x u_2) = some (r, x') := hf
  refine lv_iload_n hx hb dd_IN_bitCount_10 rfl (lv_at hl 0 rfl) ?_
  refine lv_ldcw (v := 858993459) hx hb hown (hts _ gw_k_IN_266) dd_IN_bitCount_11 ?_
  refine lv_iand hx hb dd_IN_bitCount_14 ?_
  refine lv_iload_n hx hb dd_IN_bitCount_15 rfl (lv_at hl 0 rfl) ?_
  refine lv_iconst (v := 2) hx hb dd_IN_bitCount_16 (by decide) ?_
  refine lv_iushr hx hb dd_IN_bitCount_17 rfl ?_
  refine lv_ldcw (v := 858993459) hx hb hown (hts _ gw_k_IN_266) dd_IN_bitCount_18 ?_
  refine lv_iand hx hb dd_IN_bitCount_21 ?_
  refine lv_iadd hx hb dd_IN_bitCount_22 ?_
  obtain ⟨u_2, eu_2, hf⟩ := of_li hf
  refine tpi eu_2 ?_
  refine lv_istore_n (lv' := [(0, .int u_2)]) hx hb dd_IN_bitCount_23 rfl hl (by decide) rfl (fun ls hl => ?_)
  exact ww_IN_bitCount_24 C0 hap   hf hP hS (lv_sub hl [0] rfl)
set_option maxHeartbeats 4000000 in
set_option maxRecDepth 100000 in
theorem ww_IN_bitCount {p : Program} {l : Launch} {e : Env} {s : State} {m : MethodId} {args : Array Value} {below : List Frame} {meth : Method} {c : Code} {E : Ev} {A : Nat → Prop} {ad : Nat → Nat} {r : Int32} {x' : St} (C0 : Cx E A RIN bb_IN_bitCount 1 (some .int) p s m args meth c) (hap : Ap ad ixC A)  {x : St} {v0 : Int32}  (hf : ff_IN_bitCount x v0 = some (r, x')) {H : Heap} {locs : List Loc} {ls : Array Slot} (hP : Wd E ad ixC x H) (hS : va_S A s.heap H locs) (hl : lv_has ls 1 [(0, .int v0)]) : W p l e rm_IN_bitCount s m args below meth c H locs 0 0 (MQ below (QX E ad ixC A (some (.int r)) x') args s 0 0 A) (F0 m 0 ls []) := by
  obtain ⟨hx, hb, hml, hr, hown, hts, hlk, hK⟩ := id C0
  have hf : li (v0 - (((v0.toUInt32 >>> ((1 : Int32).toUInt32 &&& Int32.toUInt32 31)).toInt32) &&& 1431655765)) (fun u_1 => ff_IN_bitCount_10 x u_1) = some (r, x') := hf
  refine lv_iload_n hx hb dd_IN_bitCount_0 rfl (lv_at hl 0 rfl) ?_
  refine lv_iload_n hx hb dd_IN_bitCount_1 rfl (lv_at hl 0 rfl) ?_
  refine lv_iconst (v := 1) hx hb dd_IN_bitCount_2 (by decide) ?_
  refine lv_iushr hx hb dd_IN_bitCount_3 rfl ?_
  refine lv_ldcw (v := 1431655765) hx hb hown (hts _ gw_k_IN_265) dd_IN_bitCount_4 ?_
  refine lv_iand hx hb dd_IN_bitCount_7 ?_
  refine lv_isub hx hb dd_IN_bitCount_8 ?_
  obtain ⟨u_1, eu_1, hf⟩ := of_li hf
  refine tpi eu_1 ?_
  refine lv_istore_n (lv' := [(0, .int u_1)]) hx hb dd_IN_bitCount_9 rfl hl (by decide) rfl (fun ls hl => ?_)
  exact ww_IN_bitCount_10 C0 hap   hf hP hS (lv_sub hl [0] rfl)
theorem cc_IN_bitCount {l : Launch} {E : Ev} {A : Nat → Prop} {ad : Nat → Nat} (hap : Ap ad ixC A) {x x' : St} {v0 : Int32} {r : Int32}  (hf : ff_IN_bitCount x v0 = some (r, x')) : Met l yy_IN_bitCount (Cond.code yy_IN_bitCount bb_IN_bitCount 1 (some .int) :: gtb) rm_IN_bitCount (va_Pc [.int v0] (PB E A ad ixC x)) (QX E ad ixC A (some (.int r)) x') 0 0 A := by
  exact enter (by decide) (Nat.le_of_ble_eq_true rfl) (fun p e s m below meth c ls C0 hP hS hl => ww_IN_bitCount C0 hap  hf hP hS hl)
