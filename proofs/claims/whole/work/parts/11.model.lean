abbrev rm_MO_here : Room := { frames := 0, cells := 0, slots := 0, locals := 0 }
theorem dd_MO_here_0 : decode bb_MO_here 0 = .ok (.aload_n 0, 1) := by decide +kernel
theorem dd_MO_here_1 : decode bb_MO_here 1 = .ok (.getfield 123, 3) := by decide +kernel
theorem dd_MO_here_4 : decode bb_MO_here 4 = .ok (.aload_n 0, 1) := by decide +kernel
theorem dd_MO_here_5 : decode bb_MO_here 5 = .ok (.getfield 118, 3) := by decide +kernel
theorem dd_MO_here_8 : decode bb_MO_here 8 = .ok (.if_icmp .ge 19, 3) := by decide +kernel
theorem dd_MO_here_11 : decode bb_MO_here 11 = .ok (.aload_n 0, 1) := by decide +kernel
theorem dd_MO_here_12 : decode bb_MO_here 12 = .ok (.getfield 20, 3) := by decide +kernel
theorem dd_MO_here_15 : decode bb_MO_here 15 = .ok (.aload_n 0, 1) := by decide +kernel
theorem dd_MO_here_16 : decode bb_MO_here 16 = .ok (.getfield 123, 3) := by decide +kernel
theorem dd_MO_here_19 : decode bb_MO_here 19 = .ok (.baload, 1) := by decide +kernel
theorem dd_MO_here_20 : decode bb_MO_here 20 = .ok (.sipush 255, 3) := by decide +kernel
theorem dd_MO_here_23 : decode bb_MO_here 23 = .ok (.iand, 1) := by decide +kernel
theorem dd_MO_here_24 : decode bb_MO_here 24 = .ok (.goto 4, 3) := by decide +kernel
theorem dd_MO_here_27 : decode bb_MO_here 27 = .ok (.iconst (-1), 1) := by decide +kernel
theorem dd_MO_here_28 : decode bb_MO_here 28 = .ok (.ireturn, 1) := by decide +kernel
def ff_MO_here  (x : St) (v0 : Nat) : Option (Int32 × St) := (if (gi x v0 7) ≤ (gi x v0 8) then some ((-1), x) else (if ixb (gi x v0 8) (ln (rf v0 6)) = true then some ((gi x (rf v0 6) (ix (gi x v0 8))) &&& 255, x) else none))
set_option maxHeartbeats 4000000 in
set_option maxRecDepth 100000 in
theorem ww_MO_here {p : Program} {l : Launch} {e : Env} {s : State} {m : MethodId} {args : Array Value} {below : List Frame} {meth : Method} {c : Code} {E : Ev} {A : Nat → Prop} {ad : Nat → Nat} {r : Int32} {x' : St} (C0 : Cx E A RMO bb_MO_here 1 (some .int) p s m args meth c) (hap : Ap ad ixM A)  {x : St} {v0 : Nat} (ho_v0 : isO ixM v0 6) (hf : ff_MO_here x v0 = some (r, x')) {H : Heap} {locs : List Loc} {ls : Array Slot} (hP : Wd E ad ixM x H) (hS : va_S A s.heap H locs) (hl : lv_has ls 1 [(0, .ref (ad v0))]) : W p l e rm_MO_here s m args below meth c H locs 0 0 (MQ below (QX E ad ixM A (some (.int r)) x') args s 0 0 A) (F0 m 0 ls []) := by
  obtain ⟨hx, hb, hml, hr, hown, hts, hlk, hK⟩ := id C0
  have hf : (if (gi x v0 7) ≤ (gi x v0 8) then some ((-1), x) else (if ixb (gi x v0 8) (ln (rf v0 6)) = true then some ((gi x (rf v0 6) (ix (gi x v0 8))) &&& 255, x) else none)) = some (r, x') := hf
  refine lv_aload_n hx hb dd_MO_here_0 rfl (lv_at hl 0 rfl) ?_
  refine gf_MO_123 C0 hP ho_v0 dd_MO_here_1 ?_
  refine lv_aload_n hx hb dd_MO_here_4 rfl (lv_at hl 0 rfl) ?_
  refine gf_MO_118 C0 hP ho_v0 dd_MO_here_5 ?_
  refine lv_icmp_ge (tgt := 27) hx hb dd_MO_here_8 (by decide) (fun h_1 => ?_) (fun h_1 => ?_)
  · have hf := (if_pos h_1).symm.trans hf
    refine lv_iconst (v := -1) hx hb dd_MO_here_27 (by decide) ?_
    exact rrI C0 hP hS dd_MO_here_28 hf
  · have hf := (if_neg h_1).symm.trans hf
    refine lv_aload_n hx hb dd_MO_here_11 rfl (lv_at hl 0 rfl) ?_
    refine gf_MO_20 C0 hP ho_v0 dd_MO_here_12 ?_
    refine lv_aload_n hx hb dd_MO_here_15 rfl (lv_at hl 0 rfl) ?_
    refine gf_MO_123 C0 hP ho_v0 dd_MO_here_16 ?_
    obtain ⟨h_2, hf⟩ := of_ifb hf
    refine raB C0 hP (tp_6_6 ho_v0) h_2 dd_MO_here_19 ?_
    refine lv_sipush (v := 255) hx hb dd_MO_here_20 (by decide) ?_
    refine lv_iand hx hb dd_MO_here_23 ?_
    refine lv_goto (tgt := 28) hx hb dd_MO_here_24 (by decide) ?_
    exact rrI C0 hP hS dd_MO_here_28 hf
theorem cc_MO_here {l : Launch} {E : Ev} {A : Nat → Prop} {ad : Nat → Nat} (hap : Ap ad ixM A) {x x' : St} {v0 : Nat} {r : Int32} (ho_v0 : isO ixM v0 6) (hf : ff_MO_here x v0 = some (r, x')) : Met l yy_MO_here (Cond.code yy_MO_here bb_MO_here 1 (some .int) :: gtb) rm_MO_here (va_Pc [.ref (ad v0)] (PB E A ad ixM x)) (QX E ad ixM A (some (.int r)) x') 0 0 A := by
  exact enter (by decide) (Nat.le_of_ble_eq_true rfl) (fun p e s m below meth c ls C0 hP hS hl => ww_MO_here C0 hap ho_v0 hf hP hS hl)
abbrev rm_MO_meaning : Room := { frames := 0, cells := 0, slots := 0, locals := 0 }
theorem dd_MO_meaning_0 : decode bb_MO_meaning 0 = .ok (.iload_n 1, 1) := by decide +kernel
theorem dd_MO_meaning_1 : decode bb_MO_meaning 1 = .ok (.ifCond .le 38, 3) := by decide +kernel
theorem dd_MO_meaning_4 : decode bb_MO_meaning 4 = .ok (.iload_n 0, 1) := by decide +kernel
theorem dd_MO_meaning_5 : decode bb_MO_meaning 5 = .ok (.ldc 126, 2) := by decide +kernel
theorem dd_MO_meaning_7 : decode bb_MO_meaning 7 = .ok (.if_icmp .ne 13, 3) := by decide +kernel
theorem dd_MO_meaning_10 : decode bb_MO_meaning 10 = .ok (.iload_n 1, 1) := by decide +kernel
theorem dd_MO_meaning_11 : decode bb_MO_meaning 11 = .ok (.bipush 18, 2) := by decide +kernel
theorem dd_MO_meaning_13 : decode bb_MO_meaning 13 = .ok (.if_icmp .ne 7, 3) := by decide +kernel
theorem dd_MO_meaning_16 : decode bb_MO_meaning 16 = .ok (.iconst 0, 1) := by decide +kernel
theorem dd_MO_meaning_17 : decode bb_MO_meaning 17 = .ok (.goto 21, 3) := by decide +kernel
theorem dd_MO_meaning_20 : decode bb_MO_meaning 20 = .ok (.iload_n 0, 1) := by decide +kernel
theorem dd_MO_meaning_21 : decode bb_MO_meaning 21 = .ok (.ldc 127, 2) := by decide +kernel
theorem dd_MO_meaning_23 : decode bb_MO_meaning 23 = .ok (.if_icmp .ne 13, 3) := by decide +kernel
theorem dd_MO_meaning_26 : decode bb_MO_meaning 26 = .ok (.iload_n 1, 1) := by decide +kernel
theorem dd_MO_meaning_27 : decode bb_MO_meaning 27 = .ok (.bipush 7, 2) := by decide +kernel
theorem dd_MO_meaning_29 : decode bb_MO_meaning 29 = .ok (.if_icmp .ne 7, 3) := by decide +kernel
theorem dd_MO_meaning_32 : decode bb_MO_meaning 32 = .ok (.iconst 3, 1) := by decide +kernel
theorem dd_MO_meaning_33 : decode bb_MO_meaning 33 = .ok (.goto 5, 3) := by decide +kernel
theorem dd_MO_meaning_36 : decode bb_MO_meaning 36 = .ok (.bipush 10, 2) := by decide +kernel
theorem dd_MO_meaning_38 : decode bb_MO_meaning 38 = .ok (.ireturn, 1) := by decide +kernel
theorem dd_MO_meaning_39 : decode bb_MO_meaning 39 = .ok (.iload_n 0, 1) := by decide +kernel
theorem dd_MO_meaning_40 : decode bb_MO_meaning 40 = .ok (.lookupswitch 63 #[(2968, 58), (50556, 60), (5616614, 52), (8254157, 56), (8683934, 54)], 52) := by decide +kernel
theorem dd_MO_meaning_92 : decode bb_MO_meaning 92 = .ok (.iconst 1, 1) := by decide +kernel
theorem dd_MO_meaning_93 : decode bb_MO_meaning 93 = .ok (.ireturn, 1) := by decide +kernel
theorem dd_MO_meaning_94 : decode bb_MO_meaning 94 = .ok (.iconst 2, 1) := by decide +kernel
theorem dd_MO_meaning_95 : decode bb_MO_meaning 95 = .ok (.ireturn, 1) := by decide +kernel
theorem dd_MO_meaning_96 : decode bb_MO_meaning 96 = .ok (.iconst 4, 1) := by decide +kernel
theorem dd_MO_meaning_97 : decode bb_MO_meaning 97 = .ok (.ireturn, 1) := by decide +kernel
theorem dd_MO_meaning_98 : decode bb_MO_meaning 98 = .ok (.iconst 5, 1) := by decide +kernel
theorem dd_MO_meaning_99 : decode bb_MO_meaning 99 = .ok (.ireturn, 1) := by decide +kernel
theorem dd_MO_meaning_100 : decode bb_MO_meaning 100 = .ok (.bipush 6, 2) := by decide +kernel
theorem dd_MO_meaning_102 : decode bb_MO_meaning 102 = .ok (.ireturn, 1) := by decide +kernel
theorem dd_MO_meaning_103 : decode bb_MO_meaning 103 = .ok (.bipush 10, 2) := by decide +kernel
theorem dd_MO_meaning_105 : decode bb_MO_meaning 105 = .ok (.ireturn, 1) := by decide +kernel
def ff_MO_meaning_20  (x : St) (v0 : Int32) (v1 : Int32) : Option (Int32 × St) := (if v0 = 332763971 then (if v1 = 7 then some (3, x) else some (10, x)) else some (10, x))
def ff_MO_meaning  (x : St) (v0 : Int32) (v1 : Int32) : Option (Int32 × St) := (if v1 ≤ 0 then (if v0 = 2968 then some (5, x) else (if v0 = 50556 then some (6, x) else (if v0 = 5616614 then some (1, x) else (if v0 = 8254157 then some (4, x) else (if v0 = 8683934 then some (2, x) else some (10, x)))))) else (if v0 = 194934254 then (if v1 = 18 then some (0, x) else ff_MO_meaning_20 x v0 v1) else ff_MO_meaning_20 x v0 v1))
set_option maxHeartbeats 4000000 in
set_option maxRecDepth 100000 in
theorem ww_MO_meaning_20 {p : Program} {l : Launch} {e : Env} {s : State} {m : MethodId} {args : Array Value} {below : List Frame} {meth : Method} {c : Code} {E : Ev} {A : Nat → Prop} {ad : Nat → Nat} {r : Int32} {x' : St} (C0 : Cx E A RMO bb_MO_meaning 2 (some .int) p s m args meth c) (hap : Ap ad ixM A)  {x : St} {v0 : Int32} {v1 : Int32}  (hf : ff_MO_meaning_20 x v0 v1 = some (r, x')) {H : Heap} {locs : List Loc} {ls : Array Slot} (hP : Wd E ad ixM x H) (hS : va_S A s.heap H locs) (hl : lv_has ls 2 [(0, .int v0), (1, .int v1)]) : W p l e rm_MO_meaning s m args below meth c H locs 0 0 (MQ below (QX E ad ixM A (some (.int r)) x') args s 0 0 A) (F0 m 20 ls []) := by
  obtain ⟨hx, hb, hml, hr, hown, hts, hlk, hK⟩ := id C0
  have hf : (if v0 = 332763971 then (if v1 = 7 then some (3, x) else some (10, x)) else some (10, x)) = some (r, x') := hf
  refine lv_iload_n hx hb dd_MO_meaning_20 rfl (lv_at hl 0 rfl) ?_
  refine lv_ldc (v := 332763971) hx hb hown (hts _ gw_k_MO_127) dd_MO_meaning_21 ?_
  refine lv_icmp_ne (tgt := 36) hx hb dd_MO_meaning_23 (by decide) (fun h_8 => ?_) (fun h_8 => ?_)
  · have hf := (if_neg h_8).symm.trans hf
    refine lv_bipush (v := 10) hx hb dd_MO_meaning_36 (by decide) ?_
    exact rrI C0 hP hS dd_MO_meaning_38 hf
  · have hf := (if_pos h_8).symm.trans hf
    refine lv_iload_n hx hb dd_MO_meaning_26 rfl (lv_at hl 1 rfl) ?_
    refine lv_bipush (v := 7) hx hb dd_MO_meaning_27 (by decide) ?_
    refine lv_icmp_ne (tgt := 36) hx hb dd_MO_meaning_29 (by decide) (fun h_9 => ?_) (fun h_9 => ?_)
    · have hf := (if_neg h_9).symm.trans hf
      refine lv_bipush (v := 10) hx hb dd_MO_meaning_36 (by decide) ?_
      exact rrI C0 hP hS dd_MO_meaning_38 hf
    · have hf := (if_pos h_9).symm.trans hf
      refine lv_iconst (v := 3) hx hb dd_MO_meaning_32 (by decide) ?_
      refine lv_goto (tgt := 38) hx hb dd_MO_meaning_33 (by decide) ?_
      exact rrI C0 hP hS dd_MO_meaning_38 hf
set_option maxHeartbeats 4000000 in
set_option maxRecDepth 100000 in
theorem ww_MO_meaning {p : Program} {l : Launch} {e : Env} {s : State} {m : MethodId} {args : Array Value} {below : List Frame} {meth : Method} {c : Code} {E : Ev} {A : Nat → Prop} {ad : Nat → Nat} {r : Int32} {x' : St} (C0 : Cx E A RMO bb_MO_meaning 2 (some .int) p s m args meth c) (hap : Ap ad ixM A)  {x : St} {v0 : Int32} {v1 : Int32}  (hf : ff_MO_meaning x v0 v1 = some (r, x')) {H : Heap} {locs : List Loc} {ls : Array Slot} (hP : Wd E ad ixM x H) (hS : va_S A s.heap H locs) (hl : lv_has ls 2 [(0, .int v0), (1, .int v1)]) : W p l e rm_MO_meaning s m args below meth c H locs 0 0 (MQ below (QX E ad ixM A (some (.int r)) x') args s 0 0 A) (F0 m 0 ls []) := by
  obtain ⟨hx, hb, hml, hr, hown, hts, hlk, hK⟩ := id C0
  have hf : (if v1 ≤ 0 then (if v0 = 2968 then some (5, x) else (if v0 = 50556 then some (6, x) else (if v0 = 5616614 then some (1, x) else (if v0 = 8254157 then some (4, x) else (if v0 = 8683934 then some (2, x) else some (10, x)))))) else (if v0 = 194934254 then (if v1 = 18 then some (0, x) else ff_MO_meaning_20 x v0 v1) else ff_MO_meaning_20 x v0 v1)) = some (r, x') := hf
  refine lv_iload_n hx hb dd_MO_meaning_0 rfl (lv_at hl 1 rfl) ?_
  refine lv_if_le (tgt := 39) hx hb dd_MO_meaning_1 (by decide) (fun h_1 => ?_) (fun h_1 => ?_)
  · have hf := (if_pos h_1).symm.trans hf
    refine lv_iload_n hx hb dd_MO_meaning_39 rfl (lv_at hl 0 rfl) ?_
    by_cases h_2 : v0 = 2968
    · have hf := (if_pos h_2).symm.trans hf
      refine lv_lookup (off := 58) (tgt := 98) hx hb dd_MO_meaning_40 (by decide) (by rw [h_2]; decide) (by decide) ?_
      refine lv_iconst (v := 5) hx hb dd_MO_meaning_98 (by decide) ?_
      exact rrI C0 hP hS dd_MO_meaning_99 hf
    have hf := (if_neg h_2).symm.trans hf
    by_cases h_3 : v0 = 50556
    · have hf := (if_pos h_3).symm.trans hf
      refine lv_lookup (off := 60) (tgt := 100) hx hb dd_MO_meaning_40 (by decide) (by rw [h_3]; decide) (by decide) ?_
      refine lv_bipush (v := 6) hx hb dd_MO_meaning_100 (by decide) ?_
      exact rrI C0 hP hS dd_MO_meaning_102 hf
    have hf := (if_neg h_3).symm.trans hf
    by_cases h_4 : v0 = 5616614
    · have hf := (if_pos h_4).symm.trans hf
      refine lv_lookup (off := 52) (tgt := 92) hx hb dd_MO_meaning_40 (by decide) (by rw [h_4]; decide) (by decide) ?_
      refine lv_iconst (v := 1) hx hb dd_MO_meaning_92 (by decide) ?_
      exact rrI C0 hP hS dd_MO_meaning_93 hf
    have hf := (if_neg h_4).symm.trans hf
    by_cases h_5 : v0 = 8254157
    · have hf := (if_pos h_5).symm.trans hf
      refine lv_lookup (off := 56) (tgt := 96) hx hb dd_MO_meaning_40 (by decide) (by rw [h_5]; decide) (by decide) ?_
      refine lv_iconst (v := 4) hx hb dd_MO_meaning_96 (by decide) ?_
      exact rrI C0 hP hS dd_MO_meaning_97 hf
    have hf := (if_neg h_5).symm.trans hf
    by_cases h_6 : v0 = 8683934
    · have hf := (if_pos h_6).symm.trans hf
      refine lv_lookup (off := 54) (tgt := 94) hx hb dd_MO_meaning_40 (by decide) (by rw [h_6]; decide) (by decide) ?_
      refine lv_iconst (v := 2) hx hb dd_MO_meaning_94 (by decide) ?_
      exact rrI C0 hP hS dd_MO_meaning_95 hf
    have hf := (if_neg h_6).symm.trans hf
    refine lv_lookup (off := 63) (tgt := 103) hx hb dd_MO_meaning_40 (by decide) (by rw [lv_osw h_2 (a := 2968) (by decide)]; rw [lv_osw h_3 (a := 50556) (by decide)]; rw [lv_osw h_4 (a := 5616614) (by decide)]; rw [lv_osw h_5 (a := 8254157) (by decide)]; rw [lv_osw h_6 (a := 8683934) (by decide)]; rfl) (by decide) ?_
    refine lv_bipush (v := 10) hx hb dd_MO_meaning_103 (by decide) ?_
    exact rrI C0 hP hS dd_MO_meaning_105 hf
  · have hf := (if_neg h_1).symm.trans hf
    refine lv_iload_n hx hb dd_MO_meaning_4 rfl (lv_at hl 0 rfl) ?_
    refine lv_ldc (v := 194934254) hx hb hown (hts _ gw_k_MO_126) dd_MO_meaning_5 ?_
    refine lv_icmp_ne (tgt := 20) hx hb dd_MO_meaning_7 (by decide) (fun h_7 => ?_) (fun h_7 => ?_)
    · have hf := (if_neg h_7).symm.trans hf
      exact ww_MO_meaning_20 C0 hap   hf hP hS (lv_sub hl [0, 1] rfl)
    · have hf := (if_pos h_7).symm.trans hf
      refine lv_iload_n hx hb dd_MO_meaning_10 rfl (lv_at hl 1 rfl) ?_
      refine lv_bipush (v := 18) hx hb dd_MO_meaning_11 (by decide) ?_
      refine lv_icmp_ne (tgt := 20) hx hb dd_MO_meaning_13 (by decide) (fun h_10 => ?_) (fun h_10 => ?_)
      · have hf := (if_neg h_10).symm.trans hf
        exact ww_MO_meaning_20 C0 hap   hf hP hS (lv_sub hl [0, 1] rfl)
      · have hf := (if_pos h_10).symm.trans hf
        refine lv_iconst (v := 0) hx hb dd_MO_meaning_16 (by decide) ?_
        refine lv_goto (tgt := 38) hx hb dd_MO_meaning_17 (by decide) ?_
        exact rrI C0 hP hS dd_MO_meaning_38 hf
theorem cc_MO_meaning {l : Launch} {E : Ev} {A : Nat → Prop} {ad : Nat → Nat} (hap : Ap ad ixM A) {x x' : St} {v0 : Int32} {v1 : Int32} {r : Int32}  (hf : ff_MO_meaning x v0 v1 = some (r, x')) : Met l yy_MO_meaning (Cond.code yy_MO_meaning bb_MO_meaning 2 (some .int) :: gtb) rm_MO_meaning (va_Pc [.int v0, .int v1] (PB E A ad ixM x)) (QX E ad ixM A (some (.int r)) x') 0 0 A := by
  exact enter (by decide) (Nat.le_of_ble_eq_true rfl) (fun p e s m below meth c ls C0 hP hS hl => ww_MO_meaning C0 hap  hf hP hS hl)
theorem cl_MO_128 {p : Program} {l : Launch} {e : Env} {R : Room} {s : State} {m : MethodId} {args : Array Value} {below : List Frame} {meth : Method} {c : Code} {H : Heap} {locs : List Loc} {cells slots : Nat} {Q : State → Prop} {cc : ByteArray} {pc : Nat} {ls : Array Slot} {rest : List Value} {E : Ev} {A : Nat → Prop} {ad : Nat → Nat} {nL : Nat} {rt : Option FieldType} (C0 : Cx E A RMO cc nL rt p s m args meth c) (hap : Ap ad ixM A) {x x' : St} {v0 : Nat} {r : Int32} (ho_v0 : isO ixM v0 6) (hc : ff_MO_here x v0 = some (r, x')) (hP : Wd E ad ixM x H) (hS : va_S A s.heap H locs) (hR : rm_MO_here.frames + 1 ≤ R.frames ∧ 8 + (1 + 11) + rm_MO_here.locals ≤ R.locals) (hls : ls.size = nL) (hroom : (rest.map fun v => v.category).sum ≤ 8) (hdg : decode cc pc = .ok (.invokevirtual 128, 3)) (hf : cells ≤ R.cells ∧ slots ≤ R.slots) (kk : ∀ H1 locs1, Wd E ad ixM x' H1 → va_S A s.heap H1 locs1 → W p l e R s m args below meth c H1 locs1 cells slots Q (F0 m (pc + 3) ls (.int r :: rest))) : W p l e R s m args below meth c H locs cells slots Q (F0 m pc ls (.ref (ad v0) :: rest)) :=
  rcV (n := 0) C0 (cc_MO_here hap ho_v0 hc) hP hS ho_v0 vcl_6 (by decide) gw_code_MO_here gw_m_MO_128 gw_inst_MO_here gw_sel_MO_here gw_ini_MO rfl rfl (by decide +kernel) rfl hR hls rfl hroom hdg hf (fun H1 locs1 a _ _ b => kk H1 locs1 a b)
theorem cl_MO_140 {p : Program} {l : Launch} {e : Env} {R : Room} {s : State} {m : MethodId} {args : Array Value} {below : List Frame} {meth : Method} {c : Code} {H : Heap} {locs : List Loc} {cells slots : Nat} {Q : State → Prop} {cc : ByteArray} {pc : Nat} {ls : Array Slot} {rest : List Value} {E : Ev} {A : Nat → Prop} {ad : Nat → Nat} {nL : Nat} {rt : Option FieldType} (C0 : Cx E A RMO cc nL rt p s m args meth c) (hap : Ap ad ixM A) {x x' : St} {v0 : Int32} {v1 : Int32} {r : Int32}  (hc : ff_MO_meaning x v0 v1 = some (r, x')) (hP : Wd E ad ixM x H) (hS : va_S A s.heap H locs) (hR : rm_MO_meaning.frames + 1 ≤ R.frames ∧ 8 + (2 + 11) + rm_MO_meaning.locals ≤ R.locals) (hls : ls.size = nL) (hroom : (rest.map fun v => v.category).sum ≤ 8) (hdg : decode cc pc = .ok (.invokestatic 140, 3)) (hf : cells ≤ R.cells ∧ slots ≤ R.slots) (kk : ∀ H1 locs1, Wd E ad ixM x' H1 → va_S A s.heap H1 locs1 → W p l e R s m args below meth c H1 locs1 cells slots Q (F0 m (pc + 3) ls (.int r :: rest))) : W p l e R s m args below meth c H locs cells slots Q (F0 m pc ls (.int v1 :: .int v0 :: rest)) :=
  rcS (n := 2) C0 (cc_MO_meaning hap  hc) hP hS gw_code_MO_meaning gw_m_MO_140 gw_static_MO_meaning gw_ini_MO rfl rfl (by decide +kernel) rfl hR hls rfl hroom hdg hf (fun H1 locs1 a _ _ b => kk H1 locs1 a b)
abbrev rm_MO_next : Room := { frames := 1, cells := 0, slots := 0, locals := 22 }
theorem dd_MO_next_0 : decode bb_MO_next 0 = .ok (.aload_n 0, 1) := by decide +kernel
theorem dd_MO_next_1 : decode bb_MO_next 1 = .ok (.invokevirtual 128, 3) := by decide +kernel
theorem dd_MO_next_4 : decode bb_MO_next 4 = .ok (.bipush 32, 2) := by decide +kernel
theorem dd_MO_next_6 : decode bb_MO_next 6 = .ok (.if_icmp .ne 16, 3) := by decide +kernel
theorem dd_MO_next_9 : decode bb_MO_next 9 = .ok (.aload_n 0, 1) := by decide +kernel
theorem dd_MO_next_10 : decode bb_MO_next 10 = .ok (.dup, 1) := by decide +kernel
theorem dd_MO_next_11 : decode bb_MO_next 11 = .ok (.getfield 123, 3) := by decide +kernel
theorem dd_MO_next_14 : decode bb_MO_next 14 = .ok (.iconst 1, 1) := by decide +kernel
theorem dd_MO_next_15 : decode bb_MO_next 15 = .ok (.iadd, 1) := by decide +kernel
theorem dd_MO_next_16 : decode bb_MO_next 16 = .ok (.putfield 123, 3) := by decide +kernel
theorem dd_MO_next_19 : decode bb_MO_next 19 = .ok (.goto (-19), 3) := by decide +kernel
theorem dd_MO_next_22 : decode bb_MO_next 22 = .ok (.aload_n 0, 1) := by decide +kernel
theorem dd_MO_next_23 : decode bb_MO_next 23 = .ok (.aload_n 0, 1) := by decide +kernel
theorem dd_MO_next_24 : decode bb_MO_next 24 = .ok (.getfield 123, 3) := by decide +kernel
theorem dd_MO_next_27 : decode bb_MO_next 27 = .ok (.putfield 131, 3) := by decide +kernel
theorem dd_MO_next_30 : decode bb_MO_next 30 = .ok (.aload_n 0, 1) := by decide +kernel
theorem dd_MO_next_31 : decode bb_MO_next 31 = .ok (.iconst 0, 1) := by decide +kernel
theorem dd_MO_next_32 : decode bb_MO_next 32 = .ok (.putfield 134, 3) := by decide +kernel
theorem dd_MO_next_35 : decode bb_MO_next 35 = .ok (.aload_n 0, 1) := by decide +kernel
theorem dd_MO_next_36 : decode bb_MO_next 36 = .ok (.invokevirtual 128, 3) := by decide +kernel
theorem dd_MO_next_39 : decode bb_MO_next 39 = .ok (.istore_n 1, 1) := by decide +kernel
theorem dd_MO_next_40 : decode bb_MO_next 40 = .ok (.iload_n 1, 1) := by decide +kernel
theorem dd_MO_next_41 : decode bb_MO_next 41 = .ok (.ifCond .ge 12, 3) := by decide +kernel
theorem dd_MO_next_44 : decode bb_MO_next 44 = .ok (.aload_n 0, 1) := by decide +kernel
theorem dd_MO_next_45 : decode bb_MO_next 45 = .ok (.bipush 9, 2) := by decide +kernel
theorem dd_MO_next_47 : decode bb_MO_next 47 = .ok (.putfield 137, 3) := by decide +kernel
theorem dd_MO_next_50 : decode bb_MO_next 50 = .ok (.goto 251, 3) := by decide +kernel
theorem dd_MO_next_53 : decode bb_MO_next 53 = .ok (.iload_n 1, 1) := by decide +kernel
theorem dd_MO_next_54 : decode bb_MO_next 54 = .ok (.bipush 97, 2) := by decide +kernel
theorem dd_MO_next_56 : decode bb_MO_next 56 = .ok (.bipush 122, 2) := by decide +kernel
theorem dd_MO_next_58 : decode bb_MO_next 58 = .ok (.invokestatic 64, 3) := by decide +kernel
theorem dd_MO_next_61 : decode bb_MO_next 61 = .ok (.ifCond .eq 112, 3) := by decide +kernel
theorem dd_MO_next_64 : decode bb_MO_next 64 = .ok (.iconst 0, 1) := by decide +kernel
theorem dd_MO_next_65 : decode bb_MO_next 65 = .ok (.istore_n 2, 1) := by decide +kernel
theorem dd_MO_next_66 : decode bb_MO_next 66 = .ok (.iconst 0, 1) := by decide +kernel
theorem dd_MO_next_67 : decode bb_MO_next 67 = .ok (.istore_n 3, 1) := by decide +kernel
theorem dd_MO_next_68 : decode bb_MO_next 68 = .ok (.aload_n 0, 1) := by decide +kernel
theorem dd_MO_next_69 : decode bb_MO_next 69 = .ok (.invokevirtual 128, 3) := by decide +kernel
theorem dd_MO_next_72 : decode bb_MO_next 72 = .ok (.bipush 97, 2) := by decide +kernel
theorem dd_MO_next_74 : decode bb_MO_next 74 = .ok (.bipush 122, 2) := by decide +kernel
theorem dd_MO_next_76 : decode bb_MO_next 76 = .ok (.invokestatic 64, 3) := by decide +kernel
theorem dd_MO_next_79 : decode bb_MO_next 79 = .ok (.ifCond .eq 82, 3) := by decide +kernel
theorem dd_MO_next_82 : decode bb_MO_next 82 = .ok (.aload_n 0, 1) := by decide +kernel
theorem dd_MO_next_83 : decode bb_MO_next 83 = .ok (.getfield 123, 3) := by decide +kernel
theorem dd_MO_next_86 : decode bb_MO_next 86 = .ok (.aload_n 0, 1) := by decide +kernel
theorem dd_MO_next_87 : decode bb_MO_next 87 = .ok (.getfield 131, 3) := by decide +kernel
theorem dd_MO_next_90 : decode bb_MO_next 90 = .ok (.isub, 1) := by decide +kernel
theorem dd_MO_next_91 : decode bb_MO_next 91 = .ok (.istore 4, 2) := by decide +kernel
theorem dd_MO_next_93 : decode bb_MO_next 93 = .ok (.iload 4, 2) := by decide +kernel
theorem dd_MO_next_95 : decode bb_MO_next 95 = .ok (.bipush 6, 2) := by decide +kernel
theorem dd_MO_next_97 : decode bb_MO_next 97 = .ok (.if_icmp .ge 18, 3) := by decide +kernel
theorem dd_MO_next_100 : decode bb_MO_next 100 = .ok (.bipush 27, 2) := by decide +kernel
theorem dd_MO_next_102 : decode bb_MO_next 102 = .ok (.iload_n 2, 1) := by decide +kernel
theorem dd_MO_next_103 : decode bb_MO_next 103 = .ok (.imul, 1) := by decide +kernel
theorem dd_MO_next_104 : decode bb_MO_next 104 = .ok (.aload_n 0, 1) := by decide +kernel
theorem dd_MO_next_105 : decode bb_MO_next 105 = .ok (.invokevirtual 128, 3) := by decide +kernel
theorem dd_MO_next_108 : decode bb_MO_next 108 = .ok (.iadd, 1) := by decide +kernel
theorem dd_MO_next_109 : decode bb_MO_next 109 = .ok (.bipush 96, 2) := by decide +kernel
theorem dd_MO_next_111 : decode bb_MO_next 111 = .ok (.isub, 1) := by decide +kernel
theorem dd_MO_next_112 : decode bb_MO_next 112 = .ok (.goto 4, 3) := by decide +kernel
theorem dd_MO_next_115 : decode bb_MO_next 115 = .ok (.iload_n 2, 1) := by decide +kernel
theorem dd_MO_next_116 : decode bb_MO_next 116 = .ok (.istore_n 2, 1) := by decide +kernel
theorem dd_MO_next_117 : decode bb_MO_next 117 = .ok (.iload 4, 2) := by decide +kernel
theorem dd_MO_next_119 : decode bb_MO_next 119 = .ok (.bipush 6, 2) := by decide +kernel
theorem dd_MO_next_121 : decode bb_MO_next 121 = .ok (.if_icmp .ne 13, 3) := by decide +kernel
theorem dd_MO_next_124 : decode bb_MO_next 124 = .ok (.aload_n 0, 1) := by decide +kernel
theorem dd_MO_next_125 : decode bb_MO_next 125 = .ok (.invokevirtual 128, 3) := by decide +kernel
theorem dd_MO_next_128 : decode bb_MO_next 128 = .ok (.bipush 96, 2) := by decide +kernel
theorem dd_MO_next_130 : decode bb_MO_next 130 = .ok (.isub, 1) := by decide +kernel
theorem dd_MO_next_131 : decode bb_MO_next 131 = .ok (.goto 16, 3) := by decide +kernel
theorem dd_MO_next_134 : decode bb_MO_next 134 = .ok (.iload 4, 2) := by decide +kernel
theorem dd_MO_next_136 : decode bb_MO_next 136 = .ok (.bipush 6, 2) := by decide +kernel
theorem dd_MO_next_138 : decode bb_MO_next 138 = .ok (.if_icmp .le 8, 3) := by decide +kernel
theorem dd_MO_next_141 : decode bb_MO_next 141 = .ok (.bipush 99, 2) := by decide +kernel
theorem dd_MO_next_143 : decode bb_MO_next 143 = .ok (.goto 4, 3) := by decide +kernel
theorem dd_MO_next_146 : decode bb_MO_next 146 = .ok (.iload_n 3, 1) := by decide +kernel
theorem dd_MO_next_147 : decode bb_MO_next 147 = .ok (.istore_n 3, 1) := by decide +kernel
theorem dd_MO_next_148 : decode bb_MO_next 148 = .ok (.aload_n 0, 1) := by decide +kernel
theorem dd_MO_next_149 : decode bb_MO_next 149 = .ok (.dup, 1) := by decide +kernel
theorem dd_MO_next_150 : decode bb_MO_next 150 = .ok (.getfield 123, 3) := by decide +kernel
theorem dd_MO_next_153 : decode bb_MO_next 153 = .ok (.iconst 1, 1) := by decide +kernel
theorem dd_MO_next_154 : decode bb_MO_next 154 = .ok (.iadd, 1) := by decide +kernel
theorem dd_MO_next_155 : decode bb_MO_next 155 = .ok (.putfield 123, 3) := by decide +kernel
theorem dd_MO_next_158 : decode bb_MO_next 158 = .ok (.goto (-90), 3) := by decide +kernel
theorem dd_MO_next_161 : decode bb_MO_next 161 = .ok (.aload_n 0, 1) := by decide +kernel
theorem dd_MO_next_162 : decode bb_MO_next 162 = .ok (.iload_n 2, 1) := by decide +kernel
theorem dd_MO_next_163 : decode bb_MO_next 163 = .ok (.iload_n 3, 1) := by decide +kernel
theorem dd_MO_next_164 : decode bb_MO_next 164 = .ok (.invokestatic 140, 3) := by decide +kernel
theorem dd_MO_next_167 : decode bb_MO_next 167 = .ok (.putfield 137, 3) := by decide +kernel
theorem dd_MO_next_170 : decode bb_MO_next 170 = .ok (.goto 131, 3) := by decide +kernel
theorem dd_MO_next_173 : decode bb_MO_next 173 = .ok (.iload_n 1, 1) := by decide +kernel
theorem dd_MO_next_174 : decode bb_MO_next 174 = .ok (.bipush 48, 2) := by decide +kernel
theorem dd_MO_next_176 : decode bb_MO_next 176 = .ok (.bipush 57, 2) := by decide +kernel
theorem dd_MO_next_178 : decode bb_MO_next 178 = .ok (.invokestatic 64, 3) := by decide +kernel
theorem dd_MO_next_181 : decode bb_MO_next 181 = .ok (.ifCond .eq 93, 3) := by decide +kernel
theorem dd_MO_next_184 : decode bb_MO_next 184 = .ok (.aload_n 0, 1) := by decide +kernel
theorem dd_MO_next_185 : decode bb_MO_next 185 = .ok (.invokevirtual 128, 3) := by decide +kernel
theorem dd_MO_next_188 : decode bb_MO_next 188 = .ok (.bipush 48, 2) := by decide +kernel
theorem dd_MO_next_190 : decode bb_MO_next 190 = .ok (.bipush 57, 2) := by decide +kernel
theorem dd_MO_next_192 : decode bb_MO_next 192 = .ok (.invokestatic 64, 3) := by decide +kernel
theorem dd_MO_next_195 : decode bb_MO_next 195 = .ok (.ifCond .eq 52, 3) := by decide +kernel
theorem dd_MO_next_198 : decode bb_MO_next 198 = .ok (.aload_n 0, 1) := by decide +kernel
theorem dd_MO_next_199 : decode bb_MO_next 199 = .ok (.aload_n 0, 1) := by decide +kernel
theorem dd_MO_next_200 : decode bb_MO_next 200 = .ok (.getfield 123, 3) := by decide +kernel
theorem dd_MO_next_203 : decode bb_MO_next 203 = .ok (.aload_n 0, 1) := by decide +kernel
theorem dd_MO_next_204 : decode bb_MO_next 204 = .ok (.getfield 131, 3) := by decide +kernel
theorem dd_MO_next_207 : decode bb_MO_next 207 = .ok (.isub, 1) := by decide +kernel
theorem dd_MO_next_208 : decode bb_MO_next 208 = .ok (.iconst 2, 1) := by decide +kernel
theorem dd_MO_next_209 : decode bb_MO_next 209 = .ok (.if_icmp .ge 21, 3) := by decide +kernel
theorem dd_MO_next_212 : decode bb_MO_next 212 = .ok (.bipush 10, 2) := by decide +kernel
theorem dd_MO_next_214 : decode bb_MO_next 214 = .ok (.aload_n 0, 1) := by decide +kernel
theorem dd_MO_next_215 : decode bb_MO_next 215 = .ok (.getfield 134, 3) := by decide +kernel
theorem dd_MO_next_218 : decode bb_MO_next 218 = .ok (.imul, 1) := by decide +kernel
theorem dd_MO_next_219 : decode bb_MO_next 219 = .ok (.aload_n 0, 1) := by decide +kernel
theorem dd_MO_next_220 : decode bb_MO_next 220 = .ok (.invokevirtual 128, 3) := by decide +kernel
theorem dd_MO_next_223 : decode bb_MO_next 223 = .ok (.iadd, 1) := by decide +kernel
theorem dd_MO_next_224 : decode bb_MO_next 224 = .ok (.bipush 48, 2) := by decide +kernel
theorem dd_MO_next_226 : decode bb_MO_next 226 = .ok (.isub, 1) := by decide +kernel
theorem dd_MO_next_227 : decode bb_MO_next 227 = .ok (.goto 4, 3) := by decide +kernel
theorem dd_MO_next_230 : decode bb_MO_next 230 = .ok (.iconst 0, 1) := by decide +kernel
theorem dd_MO_next_231 : decode bb_MO_next 231 = .ok (.putfield 134, 3) := by decide +kernel
theorem dd_MO_next_234 : decode bb_MO_next 234 = .ok (.aload_n 0, 1) := by decide +kernel
theorem dd_MO_next_235 : decode bb_MO_next 235 = .ok (.dup, 1) := by decide +kernel
theorem dd_MO_next_236 : decode bb_MO_next 236 = .ok (.getfield 123, 3) := by decide +kernel
theorem dd_MO_next_239 : decode bb_MO_next 239 = .ok (.iconst 1, 1) := by decide +kernel
theorem dd_MO_next_240 : decode bb_MO_next 240 = .ok (.iadd, 1) := by decide +kernel
theorem dd_MO_next_241 : decode bb_MO_next 241 = .ok (.putfield 123, 3) := by decide +kernel
theorem dd_MO_next_244 : decode bb_MO_next 244 = .ok (.goto (-60), 3) := by decide +kernel
theorem dd_MO_next_247 : decode bb_MO_next 247 = .ok (.aload_n 0, 1) := by decide +kernel
theorem dd_MO_next_248 : decode bb_MO_next 248 = .ok (.aload_n 0, 1) := by decide +kernel
theorem dd_MO_next_249 : decode bb_MO_next 249 = .ok (.getfield 123, 3) := by decide +kernel
theorem dd_MO_next_252 : decode bb_MO_next 252 = .ok (.aload_n 0, 1) := by decide +kernel
theorem dd_MO_next_253 : decode bb_MO_next 253 = .ok (.getfield 131, 3) := by decide +kernel
theorem dd_MO_next_256 : decode bb_MO_next 256 = .ok (.isub, 1) := by decide +kernel
theorem dd_MO_next_257 : decode bb_MO_next 257 = .ok (.iconst 2, 1) := by decide +kernel
theorem dd_MO_next_258 : decode bb_MO_next 258 = .ok (.if_icmp .le 8, 3) := by decide +kernel
theorem dd_MO_next_261 : decode bb_MO_next 261 = .ok (.bipush 10, 2) := by decide +kernel
theorem dd_MO_next_263 : decode bb_MO_next 263 = .ok (.goto 5, 3) := by decide +kernel
theorem dd_MO_next_266 : decode bb_MO_next 266 = .ok (.bipush 7, 2) := by decide +kernel
theorem dd_MO_next_268 : decode bb_MO_next 268 = .ok (.putfield 137, 3) := by decide +kernel
theorem dd_MO_next_271 : decode bb_MO_next 271 = .ok (.goto 30, 3) := by decide +kernel
theorem dd_MO_next_274 : decode bb_MO_next 274 = .ok (.aload_n 0, 1) := by decide +kernel
theorem dd_MO_next_275 : decode bb_MO_next 275 = .ok (.dup, 1) := by decide +kernel
theorem dd_MO_next_276 : decode bb_MO_next 276 = .ok (.getfield 123, 3) := by decide +kernel
theorem dd_MO_next_279 : decode bb_MO_next 279 = .ok (.iconst 1, 1) := by decide +kernel
theorem dd_MO_next_280 : decode bb_MO_next 280 = .ok (.iadd, 1) := by decide +kernel
theorem dd_MO_next_281 : decode bb_MO_next 281 = .ok (.putfield 123, 3) := by decide +kernel
theorem dd_MO_next_284 : decode bb_MO_next 284 = .ok (.aload_n 0, 1) := by decide +kernel
theorem dd_MO_next_285 : decode bb_MO_next 285 = .ok (.iload_n 1, 1) := by decide +kernel
theorem dd_MO_next_286 : decode bb_MO_next 286 = .ok (.bipush 59, 2) := by decide +kernel
theorem dd_MO_next_288 : decode bb_MO_next 288 = .ok (.if_icmp .ne 8, 3) := by decide +kernel
theorem dd_MO_next_291 : decode bb_MO_next 291 = .ok (.bipush 8, 2) := by decide +kernel
theorem dd_MO_next_293 : decode bb_MO_next 293 = .ok (.goto 5, 3) := by decide +kernel
theorem dd_MO_next_296 : decode bb_MO_next 296 = .ok (.bipush 10, 2) := by decide +kernel
theorem dd_MO_next_298 : decode bb_MO_next 298 = .ok (.putfield 137, 3) := by decide +kernel
theorem dd_MO_next_301 : decode bb_MO_next 301 = .ok (.return_, 1) := by decide +kernel
def ff_MO_next_247  (x : St) (v0 : Nat) : Option (Unit × St) := (if ((gi x v0 8) - (gi x v0 9)) ≤ 2 then st (si x v0 10 7) (fun x_31 => some ((), x_31)) else st (si x v0 10 10) (fun x_32 => some ((), x_32)))
def ff_MO_next_231 (k_184 : St → Nat → Option (Unit × St)) (x : St) (v0 : Nat) (w0 : Int32) (w1 : Nat) : Option (Unit × St) := st (si x w1 11 w0) (fun x_34 => st (si x_34 v0 8 ((gi x_34 v0 8) + 1)) (fun x_35 => k_184 x_35 v0))
def ff_MO_next_184  : Nat → St → Nat → Option (Unit × St)
  | 0, _, _ => none
  | n + 1, x, v0 => bnd (ff_MO_here x v0) (fun r_23 x_24 => bnd (ff_MO_in x_24 r_23 48 57) (fun r_26 x_27 => (if r_26 = 0 then ff_MO_next_247 x_27 v0 else (if 2 ≤ ((gi x_27 v0 8) - (gi x_27 v0 9)) then ff_MO_next_231 (ff_MO_next_184 n) x_27 v0 0 v0 else bnd (ff_MO_here x_27 v0) (fun r_36 x_37 => ff_MO_next_231 (ff_MO_next_184 n) x_37 v0 (((10 * (gi x_27 v0 11)) + r_36) - 48) v0)))))
def ff_MO_next_161  (x : St) (v0 : Nat) (v2 : Int32) (v3 : Int32) : Option (Unit × St) := bnd (ff_MO_meaning x v2 v3) (fun r_46 x_47 => st (si x_47 v0 10 r_46) (fun x_49 => some ((), x_49)))
def ff_MO_next_147 (k_68 : St → Nat → Int32 → Int32 → Option (Unit × St)) (x : St) (v0 : Nat) (v2 : Int32) (w0 : Int32) : Option (Unit × St) := st (si x v0 8 ((gi x v0 8) + 1)) (fun x_54 => k_68 x_54 v0 v2 w0)
def ff_MO_next_116 (k_68 : St → Nat → Int32 → Int32 → Option (Unit × St)) (x : St) (v0 : Nat) (v3 : Int32) (v4 : Int32) (w0 : Int32) : Option (Unit × St) := (if v4 = 6 then bnd (ff_MO_here x v0) (fun r_55 x_56 => ff_MO_next_147 k_68 x_56 v0 w0 (r_55 - 96)) else (if v4 ≤ 6 then ff_MO_next_147 k_68 x v0 w0 v3 else ff_MO_next_147 k_68 x v0 w0 99))
def ff_MO_next_68  : Nat → St → Nat → Int32 → Int32 → Option (Unit × St)
  | 0, _, _, _, _ => none
  | n + 1, x, v0, v2, v3 => bnd (ff_MO_here x v0) (fun r_39 x_40 => bnd (ff_MO_in x_40 r_39 97 122) (fun r_42 x_43 => (if r_42 = 0 then ff_MO_next_161 x_43 v0 v2 v3 else li ((gi x_43 v0 8) - (gi x_43 v0 9)) (fun u_50 => (if 6 ≤ u_50 then ff_MO_next_116 (ff_MO_next_68 n) x_43 v0 v3 u_50 v2 else bnd (ff_MO_here x_43 v0) (fun r_58 x_59 => ff_MO_next_116 (ff_MO_next_68 n) x_59 v0 v3 u_50 (((27 * v2) + r_58) - 96)))))))
def ff_MO_next_22  (x : St) (v0 : Nat) : Option (Unit × St) := st (si x v0 9 (gi x v0 8)) (fun x_5 => st (si x_5 v0 11 0) (fun x_6 => bnd (ff_MO_here x_6 v0) (fun r_7 x_8 => (if 0 ≤ r_7 then bnd (ff_MO_in x_8 r_7 97 122) (fun r_11 x_12 => (if r_11 = 0 then bnd (ff_MO_in x_12 r_7 48 57) (fun r_15 x_16 => (if r_15 = 0 then st (si x_16 v0 8 ((gi x_16 v0 8) + 1)) (fun x_19 => (if r_7 = 59 then st (si x_19 v0 10 8) (fun x_22 => some ((), x_22)) else st (si x_19 v0 10 10) (fun x_21 => some ((), x_21)))) else ff_MO_next_184 FU x_16 v0)) else ff_MO_next_68 FU x_12 v0 0 0)) else st (si x_8 v0 10 9) (fun x_61 => some ((), x_61))))))
def ff_MO_next_0  : Nat → St → Nat → Option (Unit × St)
  | 0, _, _ => none
  | n + 1, x, v0 => bnd (ff_MO_here x v0) (fun r_1 x_2 => (if r_1 = 32 then st (si x_2 v0 8 ((gi x_2 v0 8) + 1)) (fun x_62 => ff_MO_next_0 n x_62 v0) else ff_MO_next_22 x_2 v0))
def ff_MO_next (x : St) (v0 : Nat) : Option (Unit × St) := ff_MO_next_0 FU x v0
set_option maxHeartbeats 4000000 in
set_option maxRecDepth 100000 in
theorem ww_MO_next_247 {p : Program} {l : Launch} {e : Env} {s : State} {m : MethodId} {args : Array Value} {below : List Frame} {meth : Method} {c : Code} {E : Ev} {A : Nat → Prop} {ad : Nat → Nat} {r : Unit} {x' : St} (C0 : Cx E A RMO bb_MO_next 5 (none) p s m args meth c) (hap : Ap ad ixM A)  {x : St} {v0 : Nat} (ho_v0 : isO ixM v0 6) (hf : ff_MO_next_247 x v0 = some (r, x')) {H : Heap} {locs : List Loc} {ls : Array Slot} (hP : Wd E ad ixM x H) (hS : va_S A s.heap H locs) (hl : lv_has ls 5 [(0, .ref (ad v0))]) : W p l e rm_MO_next s m args below meth c H locs 0 0 (MQ below (QX E ad ixM A (none) x') args s 0 0 A) (F0 m 247 ls []) := by
  obtain ⟨hx, hb, hml, hr, hown, hts, hlk, hK⟩ := id C0
  have hf : (if ((gi x v0 8) - (gi x v0 9)) ≤ 2 then st (si x v0 10 7) (fun x_31 => some ((), x_31)) else st (si x v0 10 10) (fun x_32 => some ((), x_32))) = some (r, x') := hf
  refine lv_aload_n hx hb dd_MO_next_247 rfl (lv_at hl 0 rfl) ?_
  refine lv_aload_n hx hb dd_MO_next_248 rfl (lv_at hl 0 rfl) ?_
  refine gf_MO_123 C0 hP ho_v0 dd_MO_next_249 ?_
  refine lv_aload_n hx hb dd_MO_next_252 rfl (lv_at hl 0 rfl) ?_
  refine gf_MO_131 C0 hP ho_v0 dd_MO_next_253 ?_
  refine lv_isub hx hb dd_MO_next_256 ?_
  refine lv_iconst (v := 2) hx hb dd_MO_next_257 (by decide) ?_
  refine lv_icmp_le (tgt := 266) hx hb dd_MO_next_258 (by decide) (fun h_30 => ?_) (fun h_30 => ?_)
  · have hf := (if_pos h_30).symm.trans hf
    refine lv_bipush (v := 7) hx hb dd_MO_next_266 (by decide) ?_
    obtain ⟨x_31, hx_31, hf⟩ := of_st hf
    refine pf_MO_137 C0 hap hP hS ho_v0 hx_31 dd_MO_next_268 (fun H locs hP hS => ?_)
    refine lv_goto (tgt := 301) hx hb dd_MO_next_271 (by decide) ?_
    exact rrV C0 hP hS dd_MO_next_301 hf
  · have hf := (if_neg h_30).symm.trans hf
    refine lv_bipush (v := 10) hx hb dd_MO_next_261 (by decide) ?_
    refine lv_goto (tgt := 268) hx hb dd_MO_next_263 (by decide) ?_
    obtain ⟨x_32, hx_32, hf⟩ := of_st hf
    refine pf_MO_137 C0 hap hP hS ho_v0 hx_32 dd_MO_next_268 (fun H locs hP hS => ?_)
    refine lv_goto (tgt := 301) hx hb dd_MO_next_271 (by decide) ?_
    exact rrV C0 hP hS dd_MO_next_301 hf
set_option maxHeartbeats 4000000 in
set_option maxRecDepth 100000 in
theorem ww_MO_next_231 {p : Program} {l : Launch} {e : Env} {s : State} {m : MethodId} {args : Array Value} {below : List Frame} {meth : Method} {c : Code} {E : Ev} {A : Nat → Prop} {ad : Nat → Nat} {r : Unit} {x' : St} (C0 : Cx E A RMO bb_MO_next 5 (none) p s m args meth c) (hap : Ap ad ixM A) {k_184 : St → Nat → Option (Unit × St)} (hk_184 : ∀ (x : St) (v0 : Nat), (isO ixM v0 6) → k_184 x v0 = some (r, x') → ∀ (H : Heap) (locs : List Loc) (ls : Array Slot), Wd E ad ixM x H → va_S A s.heap H locs → lv_has ls 5 [(0, .ref (ad v0))] → W p l e rm_MO_next s m args below meth c H locs 0 0 (MQ below (QX E ad ixM A (none) x') args s 0 0 A) (F0 m 184 ls [])) {x : St} {v0 : Nat} {w0 : Int32} {w1 : Nat} (ho_v0 : isO ixM v0 6) (ho_w1 : isO ixM w1 6) (hf : ff_MO_next_231 k_184 x v0 w0 w1 = some (r, x')) {H : Heap} {locs : List Loc} {ls : Array Slot} (hP : Wd E ad ixM x H) (hS : va_S A s.heap H locs) (hl : lv_has ls 5 [(0, .ref (ad v0))]) : W p l e rm_MO_next s m args below meth c H locs 0 0 (MQ below (QX E ad ixM A (none) x') args s 0 0 A) (F0 m 231 ls [.int w0, .ref (ad w1)]) := by
  obtain ⟨hx, hb, hml, hr, hown, hts, hlk, hK⟩ := id C0
  have hf : st (si x w1 11 w0) (fun x_34 => st (si x_34 v0 8 ((gi x_34 v0 8) + 1)) (fun x_35 => k_184 x_35 v0)) = some (r, x') := hf
  obtain ⟨x_34, hx_34, hf⟩ := of_st hf
  refine pf_MO_134 C0 hap hP hS ho_w1 hx_34 dd_MO_next_231 (fun H locs hP hS => ?_)
  refine lv_aload_n hx hb dd_MO_next_234 rfl (lv_at hl 0 rfl) ?_
  refine lv_dup hx hb dd_MO_next_235 rfl ?_
  refine gf_MO_123 C0 hP ho_v0 dd_MO_next_236 ?_
  refine lv_iconst (v := 1) hx hb dd_MO_next_239 (by decide) ?_
  refine lv_iadd hx hb dd_MO_next_240 ?_
  obtain ⟨x_35, hx_35, hf⟩ := of_st hf
  refine pf_MO_123 C0 hap hP hS ho_v0 hx_35 dd_MO_next_241 (fun H locs hP hS => ?_)
  refine lv_goto (tgt := 184) hx hb dd_MO_next_244 (by decide) ?_
  exact hk_184 x_35 v0 ho_v0 hf _ _ _ hP hS (lv_sub hl [0] rfl)
set_option maxHeartbeats 4000000 in
set_option maxRecDepth 100000 in
theorem ww_MO_next_184 {p : Program} {l : Launch} {e : Env} {s : State} {m : MethodId} {args : Array Value} {below : List Frame} {meth : Method} {c : Code} {E : Ev} {A : Nat → Prop} {ad : Nat → Nat} {r : Unit} {x' : St} (C0 : Cx E A RMO bb_MO_next 5 (none) p s m args meth c) (hap : Ap ad ixM A)  : ∀ (n : Nat), ∀ (x : St) (v0 : Nat), (isO ixM v0 6) → ff_MO_next_184 n x v0 = some (r, x') → ∀ (H : Heap) (locs : List Loc) (ls : Array Slot), Wd E ad ixM x H → va_S A s.heap H locs → lv_has ls 5 [(0, .ref (ad v0))] → W p l e rm_MO_next s m args below meth c H locs 0 0 (MQ below (QX E ad ixM A (none) x') args s 0 0 A) (F0 m 184 ls []) := by
  obtain ⟨hx, hb, hml, hr, hown, hts, hlk, hK⟩ := id C0
  intro n
  induction n with
  | zero => intro x v0 ho_v0 hf; exact of_no hf
  | succ n ih =>
    intro x v0 ho_v0 hf H locs ls hP hS hl
    have hf : bnd (ff_MO_here x v0) (fun r_23 x_24 => bnd (ff_MO_in x_24 r_23 48 57) (fun r_26 x_27 => (if r_26 = 0 then ff_MO_next_247 x_27 v0 else (if 2 ≤ ((gi x_27 v0 8) - (gi x_27 v0 9)) then ff_MO_next_231 (ff_MO_next_184 n) x_27 v0 0 v0 else bnd (ff_MO_here x_27 v0) (fun r_36 x_37 => ff_MO_next_231 (ff_MO_next_184 n) x_37 v0 (((10 * (gi x_27 v0 11)) + r_36) - 48) v0))))) = some (r, x') := hf
    refine lv_aload_n hx hb dd_MO_next_184 rfl (lv_at hl 0 rfl) ?_
    obtain ⟨r_23, x_24, c_25, hf⟩ := of_bnd hf
    refine cl_MO_128 C0 hap ho_v0 c_25 hP hS ⟨Nat.le_of_ble_eq_true rfl, Nat.le_of_ble_eq_true rfl⟩ hl.1 (Nat.le_of_ble_eq_true rfl) dd_MO_next_185 ⟨Nat.le_refl _, Nat.le_refl _⟩ (fun H locs hP hS => ?_)
    refine lv_bipush (v := 48) hx hb dd_MO_next_188 (by decide) ?_
    refine lv_bipush (v := 57) hx hb dd_MO_next_190 (by decide) ?_
    obtain ⟨r_26, x_27, c_28, hf⟩ := of_bnd hf
    refine cl_MO_64 C0 hap  c_28 hP hS ⟨Nat.le_of_ble_eq_true rfl, Nat.le_of_ble_eq_true rfl⟩ hl.1 (Nat.le_of_ble_eq_true rfl) dd_MO_next_192 ⟨Nat.le_refl _, Nat.le_refl _⟩ (fun H locs hP hS => ?_)
    refine lv_if_eq (tgt := 247) hx hb dd_MO_next_195 (by decide) (fun h_29 => ?_) (fun h_29 => ?_)
    · have hf := (if_pos h_29).symm.trans hf
      exact ww_MO_next_247 C0 hap  ho_v0 hf hP hS (lv_sub hl [0] rfl)
    · have hf := (if_neg h_29).symm.trans hf
      refine lv_aload_n hx hb dd_MO_next_198 rfl (lv_at hl 0 rfl) ?_
      refine lv_aload_n hx hb dd_MO_next_199 rfl (lv_at hl 0 rfl) ?_
      refine gf_MO_123 C0 hP ho_v0 dd_MO_next_200 ?_
      refine lv_aload_n hx hb dd_MO_next_203 rfl (lv_at hl 0 rfl) ?_
      refine gf_MO_131 C0 hP ho_v0 dd_MO_next_204 ?_
      refine lv_isub hx hb dd_MO_next_207 ?_
      refine lv_iconst (v := 2) hx hb dd_MO_next_208 (by decide) ?_
      refine lv_icmp_ge (tgt := 230) hx hb dd_MO_next_209 (by decide) (fun h_33 => ?_) (fun h_33 => ?_)
      · have hf := (if_pos h_33).symm.trans hf
        refine lv_iconst (v := 0) hx hb dd_MO_next_230 (by decide) ?_
        exact ww_MO_next_231 C0 hap ih ho_v0 ho_v0 hf hP hS (lv_sub hl [0] rfl)
      · have hf := (if_neg h_33).symm.trans hf
        refine lv_bipush (v := 10) hx hb dd_MO_next_212 (by decide) ?_
        refine lv_aload_n hx hb dd_MO_next_214 rfl (lv_at hl 0 rfl) ?_
        refine gf_MO_134 C0 hP ho_v0 dd_MO_next_215 ?_
        refine lv_imul hx hb dd_MO_next_218 ?_
        refine lv_aload_n hx hb dd_MO_next_219 rfl (lv_at hl 0 rfl) ?_
        obtain ⟨r_36, x_37, c_38, hf⟩ := of_bnd hf
        refine cl_MO_128 C0 hap ho_v0 c_38 hP hS ⟨Nat.le_of_ble_eq_true rfl, Nat.le_of_ble_eq_true rfl⟩ hl.1 (Nat.le_of_ble_eq_true rfl) dd_MO_next_220 ⟨Nat.le_refl _, Nat.le_refl _⟩ (fun H locs hP hS => ?_)
        refine lv_iadd hx hb dd_MO_next_223 ?_
        refine lv_bipush (v := 48) hx hb dd_MO_next_224 (by decide) ?_
        refine lv_isub hx hb dd_MO_next_226 ?_
        refine lv_goto (tgt := 231) hx hb dd_MO_next_227 (by decide) ?_
        exact ww_MO_next_231 C0 hap ih ho_v0 ho_v0 hf hP hS (lv_sub hl [0] rfl)
set_option maxHeartbeats 4000000 in
set_option maxRecDepth 100000 in
theorem ww_MO_next_161 {p : Program} {l : Launch} {e : Env} {s : State} {m : MethodId} {args : Array Value} {below : List Frame} {meth : Method} {c : Code} {E : Ev} {A : Nat → Prop} {ad : Nat → Nat} {r : Unit} {x' : St} (C0 : Cx E A RMO bb_MO_next 5 (none) p s m args meth c) (hap : Ap ad ixM A)  {x : St} {v0 : Nat} {v2 : Int32} {v3 : Int32} (ho_v0 : isO ixM v0 6) (hf : ff_MO_next_161 x v0 v2 v3 = some (r, x')) {H : Heap} {locs : List Loc} {ls : Array Slot} (hP : Wd E ad ixM x H) (hS : va_S A s.heap H locs) (hl : lv_has ls 5 [(0, .ref (ad v0)), (2, .int v2), (3, .int v3)]) : W p l e rm_MO_next s m args below meth c H locs 0 0 (MQ below (QX E ad ixM A (none) x') args s 0 0 A) (F0 m 161 ls []) := by
  obtain ⟨hx, hb, hml, hr, hown, hts, hlk, hK⟩ := id C0
  have hf : bnd (ff_MO_meaning x v2 v3) (fun r_46 x_47 => st (si x_47 v0 10 r_46) (fun x_49 => some ((), x_49))) = some (r, x') := hf
  refine lv_aload_n hx hb dd_MO_next_161 rfl (lv_at hl 0 rfl) ?_
  refine lv_iload_n hx hb dd_MO_next_162 rfl (lv_at hl 1 rfl) ?_
  refine lv_iload_n hx hb dd_MO_next_163 rfl (lv_at hl 2 rfl) ?_
  obtain ⟨r_46, x_47, c_48, hf⟩ := of_bnd hf
  refine cl_MO_140 C0 hap  c_48 hP hS ⟨Nat.le_of_ble_eq_true rfl, Nat.le_of_ble_eq_true rfl⟩ hl.1 (Nat.le_of_ble_eq_true rfl) dd_MO_next_164 ⟨Nat.le_refl _, Nat.le_refl _⟩ (fun H locs hP hS => ?_)
  obtain ⟨x_49, hx_49, hf⟩ := of_st hf
  refine pf_MO_137 C0 hap hP hS ho_v0 hx_49 dd_MO_next_167 (fun H locs hP hS => ?_)
  refine lv_goto (tgt := 301) hx hb dd_MO_next_170 (by decide) ?_
  exact rrV C0 hP hS dd_MO_next_301 hf
set_option maxHeartbeats 4000000 in
set_option maxRecDepth 100000 in
theorem ww_MO_next_147 {p : Program} {l : Launch} {e : Env} {s : State} {m : MethodId} {args : Array Value} {below : List Frame} {meth : Method} {c : Code} {E : Ev} {A : Nat → Prop} {ad : Nat → Nat} {r : Unit} {x' : St} (C0 : Cx E A RMO bb_MO_next 5 (none) p s m args meth c) (hap : Ap ad ixM A) {k_68 : St → Nat → Int32 → Int32 → Option (Unit × St)} (hk_68 : ∀ (x : St) (v0 : Nat) (v2 : Int32) (v3 : Int32), (isO ixM v0 6) → k_68 x v0 v2 v3 = some (r, x') → ∀ (H : Heap) (locs : List Loc) (ls : Array Slot), Wd E ad ixM x H → va_S A s.heap H locs → lv_has ls 5 [(0, .ref (ad v0)), (2, .int v2), (3, .int v3)] → W p l e rm_MO_next s m args below meth c H locs 0 0 (MQ below (QX E ad ixM A (none) x') args s 0 0 A) (F0 m 68 ls [])) {x : St} {v0 : Nat} {v2 : Int32} {w0 : Int32} (ho_v0 : isO ixM v0 6) (hf : ff_MO_next_147 k_68 x v0 v2 w0 = some (r, x')) {H : Heap} {locs : List Loc} {ls : Array Slot} (hP : Wd E ad ixM x H) (hS : va_S A s.heap H locs) (hl : lv_has ls 5 [(0, .ref (ad v0)), (2, .int v2)]) : W p l e rm_MO_next s m args below meth c H locs 0 0 (MQ below (QX E ad ixM A (none) x') args s 0 0 A) (F0 m 147 ls [.int w0]) := by
  obtain ⟨hx, hb, hml, hr, hown, hts, hlk, hK⟩ := id C0
  have hf : st (si x v0 8 ((gi x v0 8) + 1)) (fun x_54 => k_68 x_54 v0 v2 w0) = some (r, x') := hf
  refine lv_istore_n (lv' := [(3, .int w0), (0, .ref (ad v0)), (2, .int v2)]) hx hb dd_MO_next_147 rfl hl (by decide) rfl (fun ls hl => ?_)
  refine lv_aload_n hx hb dd_MO_next_148 rfl (lv_at hl 1 rfl) ?_
  refine lv_dup hx hb dd_MO_next_149 rfl ?_
  refine gf_MO_123 C0 hP ho_v0 dd_MO_next_150 ?_
  refine lv_iconst (v := 1) hx hb dd_MO_next_153 (by decide) ?_
  refine lv_iadd hx hb dd_MO_next_154 ?_
  obtain ⟨x_54, hx_54, hf⟩ := of_st hf
  refine pf_MO_123 C0 hap hP hS ho_v0 hx_54 dd_MO_next_155 (fun H locs hP hS => ?_)
  refine lv_goto (tgt := 68) hx hb dd_MO_next_158 (by decide) ?_
  exact hk_68 x_54 v0 v2 w0 ho_v0 hf _ _ _ hP hS (lv_sub hl [1, 2, 0] rfl)
set_option maxHeartbeats 4000000 in
set_option maxRecDepth 100000 in
theorem ww_MO_next_116 {p : Program} {l : Launch} {e : Env} {s : State} {m : MethodId} {args : Array Value} {below : List Frame} {meth : Method} {c : Code} {E : Ev} {A : Nat → Prop} {ad : Nat → Nat} {r : Unit} {x' : St} (C0 : Cx E A RMO bb_MO_next 5 (none) p s m args meth c) (hap : Ap ad ixM A) {k_68 : St → Nat → Int32 → Int32 → Option (Unit × St)} (hk_68 : ∀ (x : St) (v0 : Nat) (v2 : Int32) (v3 : Int32), (isO ixM v0 6) → k_68 x v0 v2 v3 = some (r, x') → ∀ (H : Heap) (locs : List Loc) (ls : Array Slot), Wd E ad ixM x H → va_S A s.heap H locs → lv_has ls 5 [(0, .ref (ad v0)), (2, .int v2), (3, .int v3)] → W p l e rm_MO_next s m args below meth c H locs 0 0 (MQ below (QX E ad ixM A (none) x') args s 0 0 A) (F0 m 68 ls [])) {x : St} {v0 : Nat} {v3 : Int32} {v4 : Int32} {w0 : Int32} (ho_v0 : isO ixM v0 6) (hf : ff_MO_next_116 k_68 x v0 v3 v4 w0 = some (r, x')) {H : Heap} {locs : List Loc} {ls : Array Slot} (hP : Wd E ad ixM x H) (hS : va_S A s.heap H locs) (hl : lv_has ls 5 [(0, .ref (ad v0)), (3, .int v3), (4, .int v4)]) : W p l e rm_MO_next s m args below meth c H locs 0 0 (MQ below (QX E ad ixM A (none) x') args s 0 0 A) (F0 m 116 ls [.int w0]) := by
  obtain ⟨hx, hb, hml, hr, hown, hts, hlk, hK⟩ := id C0
  have hf : (if v4 = 6 then bnd (ff_MO_here x v0) (fun r_55 x_56 => ff_MO_next_147 k_68 x_56 v0 w0 (r_55 - 96)) else (if v4 ≤ 6 then ff_MO_next_147 k_68 x v0 w0 v3 else ff_MO_next_147 k_68 x v0 w0 99)) = some (r, x') := hf
  refine lv_istore_n (lv' := [(2, .int w0), (0, .ref (ad v0)), (3, .int v3), (4, .int v4)]) hx hb dd_MO_next_116 rfl hl (by decide) rfl (fun ls hl => ?_)
  refine lv_iload hx hb dd_MO_next_117 (lv_at hl 3 rfl) ?_
  refine lv_bipush (v := 6) hx hb dd_MO_next_119 (by decide) ?_
  refine lv_icmp_ne (tgt := 134) hx hb dd_MO_next_121 (by decide) (fun h_52 => ?_) (fun h_52 => ?_)
  · have hf := (if_neg h_52).symm.trans hf
    refine lv_iload hx hb dd_MO_next_134 (lv_at hl 3 rfl) ?_
    refine lv_bipush (v := 6) hx hb dd_MO_next_136 (by decide) ?_
    refine lv_icmp_le (tgt := 146) hx hb dd_MO_next_138 (by decide) (fun h_53 => ?_) (fun h_53 => ?_)
    · have hf := (if_pos h_53).symm.trans hf
      refine lv_iload_n hx hb dd_MO_next_146 rfl (lv_at hl 2 rfl) ?_
      exact ww_MO_next_147 C0 hap hk_68 ho_v0 hf hP hS (lv_sub hl [1, 0] rfl)
    · have hf := (if_neg h_53).symm.trans hf
      refine lv_bipush (v := 99) hx hb dd_MO_next_141 (by decide) ?_
      refine lv_goto (tgt := 147) hx hb dd_MO_next_143 (by decide) ?_
      exact ww_MO_next_147 C0 hap hk_68 ho_v0 hf hP hS (lv_sub hl [1, 0] rfl)
  · have hf := (if_pos h_52).symm.trans hf
    refine lv_aload_n hx hb dd_MO_next_124 rfl (lv_at hl 1 rfl) ?_
    obtain ⟨r_55, x_56, c_57, hf⟩ := of_bnd hf
    refine cl_MO_128 C0 hap ho_v0 c_57 hP hS ⟨Nat.le_of_ble_eq_true rfl, Nat.le_of_ble_eq_true rfl⟩ hl.1 (Nat.le_of_ble_eq_true rfl) dd_MO_next_125 ⟨Nat.le_refl _, Nat.le_refl _⟩ (fun H locs hP hS => ?_)
    refine lv_bipush (v := 96) hx hb dd_MO_next_128 (by decide) ?_
    refine lv_isub hx hb dd_MO_next_130 ?_
    refine lv_goto (tgt := 147) hx hb dd_MO_next_131 (by decide) ?_
    exact ww_MO_next_147 C0 hap hk_68 ho_v0 hf hP hS (lv_sub hl [1, 0] rfl)
set_option maxHeartbeats 4000000 in
set_option maxRecDepth 100000 in
theorem ww_MO_next_68 {p : Program} {l : Launch} {e : Env} {s : State} {m : MethodId} {args : Array Value} {below : List Frame} {meth : Method} {c : Code} {E : Ev} {A : Nat → Prop} {ad : Nat → Nat} {r : Unit} {x' : St} (C0 : Cx E A RMO bb_MO_next 5 (none) p s m args meth c) (hap : Ap ad ixM A)  : ∀ (n : Nat), ∀ (x : St) (v0 : Nat) (v2 : Int32) (v3 : Int32), (isO ixM v0 6) → ff_MO_next_68 n x v0 v2 v3 = some (r, x') → ∀ (H : Heap) (locs : List Loc) (ls : Array Slot), Wd E ad ixM x H → va_S A s.heap H locs → lv_has ls 5 [(0, .ref (ad v0)), (2, .int v2), (3, .int v3)] → W p l e rm_MO_next s m args below meth c H locs 0 0 (MQ below (QX E ad ixM A (none) x') args s 0 0 A) (F0 m 68 ls []) := by
  obtain ⟨hx, hb, hml, hr, hown, hts, hlk, hK⟩ := id C0
  intro n
  induction n with
  | zero => intro x v0 v2 v3 ho_v0 hf; exact of_no hf
  | succ n ih =>
    intro x v0 v2 v3 ho_v0 hf H locs ls hP hS hl
    have hf : bnd (ff_MO_here x v0) (fun r_39 x_40 => bnd (ff_MO_in x_40 r_39 97 122) (fun r_42 x_43 => (if r_42 = 0 then ff_MO_next_161 x_43 v0 v2 v3 else li ((gi x_43 v0 8) - (gi x_43 v0 9)) (fun u_50 => (if 6 ≤ u_50 then ff_MO_next_116 (ff_MO_next_68 n) x_43 v0 v3 u_50 v2 else bnd (ff_MO_here x_43 v0) (fun r_58 x_59 => ff_MO_next_116 (ff_MO_next_68 n) x_59 v0 v3 u_50 (((27 * v2) + r_58) - 96))))))) = some (r, x') := hf
    refine lv_aload_n hx hb dd_MO_next_68 rfl (lv_at hl 0 rfl) ?_
    obtain ⟨r_39, x_40, c_41, hf⟩ := of_bnd hf
    refine cl_MO_128 C0 hap ho_v0 c_41 hP hS ⟨Nat.le_of_ble_eq_true rfl, Nat.le_of_ble_eq_true rfl⟩ hl.1 (Nat.le_of_ble_eq_true rfl) dd_MO_next_69 ⟨Nat.le_refl _, Nat.le_refl _⟩ (fun H locs hP hS => ?_)
    refine lv_bipush (v := 97) hx hb dd_MO_next_72 (by decide) ?_
    refine lv_bipush (v := 122) hx hb dd_MO_next_74 (by decide) ?_
    obtain ⟨r_42, x_43, c_44, hf⟩ := of_bnd hf
    refine cl_MO_64 C0 hap  c_44 hP hS ⟨Nat.le_of_ble_eq_true rfl, Nat.le_of_ble_eq_true rfl⟩ hl.1 (Nat.le_of_ble_eq_true rfl) dd_MO_next_76 ⟨Nat.le_refl _, Nat.le_refl _⟩ (fun H locs hP hS => ?_)
    refine lv_if_eq (tgt := 161) hx hb dd_MO_next_79 (by decide) (fun h_45 => ?_) (fun h_45 => ?_)
    · have hf := (if_pos h_45).symm.trans hf
      exact ww_MO_next_161 C0 hap  ho_v0 hf hP hS (lv_sub hl [0, 1, 2] rfl)
    · have hf := (if_neg h_45).symm.trans hf
      refine lv_aload_n hx hb dd_MO_next_82 rfl (lv_at hl 0 rfl) ?_
      refine gf_MO_123 C0 hP ho_v0 dd_MO_next_83 ?_
      refine lv_aload_n hx hb dd_MO_next_86 rfl (lv_at hl 0 rfl) ?_
      refine gf_MO_131 C0 hP ho_v0 dd_MO_next_87 ?_
      refine lv_isub hx hb dd_MO_next_90 ?_
      obtain ⟨u_50, eu_50, hf⟩ := of_li hf
      refine tpi eu_50 ?_
      refine lv_istore (lv' := [(4, .int u_50), (0, .ref (ad v0)), (2, .int v2), (3, .int v3)]) hx hb dd_MO_next_91 hl (by decide) rfl (fun ls hl => ?_)
      refine lv_iload hx hb dd_MO_next_93 (lv_at hl 0 rfl) ?_
      refine lv_bipush (v := 6) hx hb dd_MO_next_95 (by decide) ?_
      refine lv_icmp_ge (tgt := 115) hx hb dd_MO_next_97 (by decide) (fun h_51 => ?_) (fun h_51 => ?_)
      · have hf := (if_pos h_51).symm.trans hf
        refine lv_iload_n hx hb dd_MO_next_115 rfl (lv_at hl 2 rfl) ?_
        exact ww_MO_next_116 C0 hap ih ho_v0 hf hP hS (lv_sub hl [1, 3, 0] rfl)
      · have hf := (if_neg h_51).symm.trans hf
        refine lv_bipush (v := 27) hx hb dd_MO_next_100 (by decide) ?_
        refine lv_iload_n hx hb dd_MO_next_102 rfl (lv_at hl 2 rfl) ?_
        refine lv_imul hx hb dd_MO_next_103 ?_
        refine lv_aload_n hx hb dd_MO_next_104 rfl (lv_at hl 1 rfl) ?_
        obtain ⟨r_58, x_59, c_60, hf⟩ := of_bnd hf
        refine cl_MO_128 C0 hap ho_v0 c_60 hP hS ⟨Nat.le_of_ble_eq_true rfl, Nat.le_of_ble_eq_true rfl⟩ hl.1 (Nat.le_of_ble_eq_true rfl) dd_MO_next_105 ⟨Nat.le_refl _, Nat.le_refl _⟩ (fun H locs hP hS => ?_)
        refine lv_iadd hx hb dd_MO_next_108 ?_
        refine lv_bipush (v := 96) hx hb dd_MO_next_109 (by decide) ?_
        refine lv_isub hx hb dd_MO_next_111 ?_
        refine lv_goto (tgt := 116) hx hb dd_MO_next_112 (by decide) ?_
        exact ww_MO_next_116 C0 hap ih ho_v0 hf hP hS (lv_sub hl [1, 3, 0] rfl)
set_option maxHeartbeats 4000000 in
set_option maxRecDepth 100000 in
theorem ww_MO_next_22 {p : Program} {l : Launch} {e : Env} {s : State} {m : MethodId} {args : Array Value} {below : List Frame} {meth : Method} {c : Code} {E : Ev} {A : Nat → Prop} {ad : Nat → Nat} {r : Unit} {x' : St} (C0 : Cx E A RMO bb_MO_next 5 (none) p s m args meth c) (hap : Ap ad ixM A)  {x : St} {v0 : Nat} (ho_v0 : isO ixM v0 6) (hf : ff_MO_next_22 x v0 = some (r, x')) {H : Heap} {locs : List Loc} {ls : Array Slot} (hP : Wd E ad ixM x H) (hS : va_S A s.heap H locs) (hl : lv_has ls 5 [(0, .ref (ad v0))]) : W p l e rm_MO_next s m args below meth c H locs 0 0 (MQ below (QX E ad ixM A (none) x') args s 0 0 A) (F0 m 22 ls []) := by
  obtain ⟨hx, hb, hml, hr, hown, hts, hlk, hK⟩ := id C0
  have hf : st (si x v0 9 (gi x v0 8)) (fun x_5 => st (si x_5 v0 11 0) (fun x_6 => bnd (ff_MO_here x_6 v0) (fun r_7 x_8 => (if 0 ≤ r_7 then bnd (ff_MO_in x_8 r_7 97 122) (fun r_11 x_12 => (if r_11 = 0 then bnd (ff_MO_in x_12 r_7 48 57) (fun r_15 x_16 => (if r_15 = 0 then st (si x_16 v0 8 ((gi x_16 v0 8) + 1)) (fun x_19 => (if r_7 = 59 then st (si x_19 v0 10 8) (fun x_22 => some ((), x_22)) else st (si x_19 v0 10 10) (fun x_21 => some ((), x_21)))) else ff_MO_next_184 FU x_16 v0)) else ff_MO_next_68 FU x_12 v0 0 0)) else st (si x_8 v0 10 9) (fun x_61 => some ((), x_61)))))) = some (r, x') := hf
  refine lv_aload_n hx hb dd_MO_next_22 rfl (lv_at hl 0 rfl) ?_
  refine lv_aload_n hx hb dd_MO_next_23 rfl (lv_at hl 0 rfl) ?_
  refine gf_MO_123 C0 hP ho_v0 dd_MO_next_24 ?_
  obtain ⟨x_5, hx_5, hf⟩ := of_st hf
  refine pf_MO_131 C0 hap hP hS ho_v0 hx_5 dd_MO_next_27 (fun H locs hP hS => ?_)
  refine lv_aload_n hx hb dd_MO_next_30 rfl (lv_at hl 0 rfl) ?_
  refine lv_iconst (v := 0) hx hb dd_MO_next_31 (by decide) ?_
  obtain ⟨x_6, hx_6, hf⟩ := of_st hf
  refine pf_MO_134 C0 hap hP hS ho_v0 hx_6 dd_MO_next_32 (fun H locs hP hS => ?_)
  refine lv_aload_n hx hb dd_MO_next_35 rfl (lv_at hl 0 rfl) ?_
  obtain ⟨r_7, x_8, c_9, hf⟩ := of_bnd hf
  refine cl_MO_128 C0 hap ho_v0 c_9 hP hS ⟨Nat.le_of_ble_eq_true rfl, Nat.le_of_ble_eq_true rfl⟩ hl.1 (Nat.le_of_ble_eq_true rfl) dd_MO_next_36 ⟨Nat.le_refl _, Nat.le_refl _⟩ (fun H locs hP hS => ?_)
  refine lv_istore_n (lv' := [(1, .int r_7), (0, .ref (ad v0))]) hx hb dd_MO_next_39 rfl hl (by decide) rfl (fun ls hl => ?_)
  refine lv_iload_n hx hb dd_MO_next_40 rfl (lv_at hl 0 rfl) ?_
  refine lv_if_ge (tgt := 53) hx hb dd_MO_next_41 (by decide) (fun h_10 => ?_) (fun h_10 => ?_)
  · have hf := (if_pos h_10).symm.trans hf
    refine lv_iload_n hx hb dd_MO_next_53 rfl (lv_at hl 0 rfl) ?_
    refine lv_bipush (v := 97) hx hb dd_MO_next_54 (by decide) ?_
    refine lv_bipush (v := 122) hx hb dd_MO_next_56 (by decide) ?_
    obtain ⟨r_11, x_12, c_13, hf⟩ := of_bnd hf
    refine cl_MO_64 C0 hap  c_13 hP hS ⟨Nat.le_of_ble_eq_true rfl, Nat.le_of_ble_eq_true rfl⟩ hl.1 (Nat.le_of_ble_eq_true rfl) dd_MO_next_58 ⟨Nat.le_refl _, Nat.le_refl _⟩ (fun H locs hP hS => ?_)
    refine lv_if_eq (tgt := 173) hx hb dd_MO_next_61 (by decide) (fun h_14 => ?_) (fun h_14 => ?_)
    · have hf := (if_pos h_14).symm.trans hf
      refine lv_iload_n hx hb dd_MO_next_173 rfl (lv_at hl 0 rfl) ?_
      refine lv_bipush (v := 48) hx hb dd_MO_next_174 (by decide) ?_
      refine lv_bipush (v := 57) hx hb dd_MO_next_176 (by decide) ?_
      obtain ⟨r_15, x_16, c_17, hf⟩ := of_bnd hf
      refine cl_MO_64 C0 hap  c_17 hP hS ⟨Nat.le_of_ble_eq_true rfl, Nat.le_of_ble_eq_true rfl⟩ hl.1 (Nat.le_of_ble_eq_true rfl) dd_MO_next_178 ⟨Nat.le_refl _, Nat.le_refl _⟩ (fun H locs hP hS => ?_)
      refine lv_if_eq (tgt := 274) hx hb dd_MO_next_181 (by decide) (fun h_18 => ?_) (fun h_18 => ?_)
      · have hf := (if_pos h_18).symm.trans hf
        refine lv_aload_n hx hb dd_MO_next_274 rfl (lv_at hl 1 rfl) ?_
        refine lv_dup hx hb dd_MO_next_275 rfl ?_
        refine gf_MO_123 C0 hP ho_v0 dd_MO_next_276 ?_
        refine lv_iconst (v := 1) hx hb dd_MO_next_279 (by decide) ?_
        refine lv_iadd hx hb dd_MO_next_280 ?_
        obtain ⟨x_19, hx_19, hf⟩ := of_st hf
        refine pf_MO_123 C0 hap hP hS ho_v0 hx_19 dd_MO_next_281 (fun H locs hP hS => ?_)
        refine lv_aload_n hx hb dd_MO_next_284 rfl (lv_at hl 1 rfl) ?_
        refine lv_iload_n hx hb dd_MO_next_285 rfl (lv_at hl 0 rfl) ?_
        refine lv_bipush (v := 59) hx hb dd_MO_next_286 (by decide) ?_
        refine lv_icmp_ne (tgt := 296) hx hb dd_MO_next_288 (by decide) (fun h_20 => ?_) (fun h_20 => ?_)
        · have hf := (if_neg h_20).symm.trans hf
          refine lv_bipush (v := 10) hx hb dd_MO_next_296 (by decide) ?_
          obtain ⟨x_21, hx_21, hf⟩ := of_st hf
          refine pf_MO_137 C0 hap hP hS ho_v0 hx_21 dd_MO_next_298 (fun H locs hP hS => ?_)
          exact rrV C0 hP hS dd_MO_next_301 hf
        · have hf := (if_pos h_20).symm.trans hf
          refine lv_bipush (v := 8) hx hb dd_MO_next_291 (by decide) ?_
          refine lv_goto (tgt := 298) hx hb dd_MO_next_293 (by decide) ?_
          obtain ⟨x_22, hx_22, hf⟩ := of_st hf
          refine pf_MO_137 C0 hap hP hS ho_v0 hx_22 dd_MO_next_298 (fun H locs hP hS => ?_)
          exact rrV C0 hP hS dd_MO_next_301 hf
      · have hf := (if_neg h_18).symm.trans hf
        exact ww_MO_next_184 C0 hap  FU x_16 v0 ho_v0 hf _ _ _ hP hS (lv_sub hl [1] rfl)
    · have hf := (if_neg h_14).symm.trans hf
      refine lv_iconst (v := 0) hx hb dd_MO_next_64 (by decide) ?_
      refine lv_istore_n (lv' := [(2, .int 0), (1, .int r_7), (0, .ref (ad v0))]) hx hb dd_MO_next_65 rfl hl (by decide) rfl (fun ls hl => ?_)
      refine lv_iconst (v := 0) hx hb dd_MO_next_66 (by decide) ?_
      refine lv_istore_n (lv' := [(3, .int 0), (2, .int 0), (1, .int r_7), (0, .ref (ad v0))]) hx hb dd_MO_next_67 rfl hl (by decide) rfl (fun ls hl => ?_)
      exact ww_MO_next_68 C0 hap  FU x_12 v0 0 0 ho_v0 hf _ _ _ hP hS (lv_sub hl [3, 1, 0] rfl)
  · have hf := (if_neg h_10).symm.trans hf
    refine lv_aload_n hx hb dd_MO_next_44 rfl (lv_at hl 1 rfl) ?_
    refine lv_bipush (v := 9) hx hb dd_MO_next_45 (by decide) ?_
    obtain ⟨x_61, hx_61, hf⟩ := of_st hf
    refine pf_MO_137 C0 hap hP hS ho_v0 hx_61 dd_MO_next_47 (fun H locs hP hS => ?_)
    refine lv_goto (tgt := 301) hx hb dd_MO_next_50 (by decide) ?_
    exact rrV C0 hP hS dd_MO_next_301 hf
set_option maxHeartbeats 4000000 in
set_option maxRecDepth 100000 in
theorem ww_MO_next_0 {p : Program} {l : Launch} {e : Env} {s : State} {m : MethodId} {args : Array Value} {below : List Frame} {meth : Method} {c : Code} {E : Ev} {A : Nat → Prop} {ad : Nat → Nat} {r : Unit} {x' : St} (C0 : Cx E A RMO bb_MO_next 5 (none) p s m args meth c) (hap : Ap ad ixM A)  : ∀ (n : Nat), ∀ (x : St) (v0 : Nat), (isO ixM v0 6) → ff_MO_next_0 n x v0 = some (r, x') → ∀ (H : Heap) (locs : List Loc) (ls : Array Slot), Wd E ad ixM x H → va_S A s.heap H locs → lv_has ls 5 [(0, .ref (ad v0))] → W p l e rm_MO_next s m args below meth c H locs 0 0 (MQ below (QX E ad ixM A (none) x') args s 0 0 A) (F0 m 0 ls []) := by
  obtain ⟨hx, hb, hml, hr, hown, hts, hlk, hK⟩ := id C0
  intro n
  induction n with
  | zero => intro x v0 ho_v0 hf; exact of_no hf
  | succ n ih =>
    intro x v0 ho_v0 hf H locs ls hP hS hl
    have hf : bnd (ff_MO_here x v0) (fun r_1 x_2 => (if r_1 = 32 then st (si x_2 v0 8 ((gi x_2 v0 8) + 1)) (fun x_62 => ff_MO_next_0 n x_62 v0) else ff_MO_next_22 x_2 v0)) = some (r, x') := hf
    refine lv_aload_n hx hb dd_MO_next_0 rfl (lv_at hl 0 rfl) ?_
    obtain ⟨r_1, x_2, c_3, hf⟩ := of_bnd hf
    refine cl_MO_128 C0 hap ho_v0 c_3 hP hS ⟨Nat.le_of_ble_eq_true rfl, Nat.le_of_ble_eq_true rfl⟩ hl.1 (Nat.le_of_ble_eq_true rfl) dd_MO_next_1 ⟨Nat.le_refl _, Nat.le_refl _⟩ (fun H locs hP hS => ?_)
    refine lv_bipush (v := 32) hx hb dd_MO_next_4 (by decide) ?_
    refine lv_icmp_ne (tgt := 22) hx hb dd_MO_next_6 (by decide) (fun h_4 => ?_) (fun h_4 => ?_)
    · have hf := (if_neg h_4).symm.trans hf
      exact ww_MO_next_22 C0 hap  ho_v0 hf hP hS (lv_sub hl [0] rfl)
    · have hf := (if_pos h_4).symm.trans hf
      refine lv_aload_n hx hb dd_MO_next_9 rfl (lv_at hl 0 rfl) ?_
      refine lv_dup hx hb dd_MO_next_10 rfl ?_
      refine gf_MO_123 C0 hP ho_v0 dd_MO_next_11 ?_
      refine lv_iconst (v := 1) hx hb dd_MO_next_14 (by decide) ?_
      refine lv_iadd hx hb dd_MO_next_15 ?_
      obtain ⟨x_62, hx_62, hf⟩ := of_st hf
      refine pf_MO_123 C0 hap hP hS ho_v0 hx_62 dd_MO_next_16 (fun H locs hP hS => ?_)
      refine lv_goto (tgt := 0) hx hb dd_MO_next_19 (by decide) ?_
      exact ih x_62 v0 ho_v0 hf _ _ _ hP hS (lv_sub hl [0] rfl)
theorem cc_MO_next {l : Launch} {E : Ev} {A : Nat → Prop} {ad : Nat → Nat} (hap : Ap ad ixM A) {x x' : St} {v0 : Nat} {r : Unit} (ho_v0 : isO ixM v0 6) (hf : ff_MO_next x v0 = some (r, x')) : Met l yy_MO_next (Cond.code yy_MO_next bb_MO_next 5 (none) :: gtb) rm_MO_next (va_Pc [.ref (ad v0)] (PB E A ad ixM x)) (QX E ad ixM A (none) x') 0 0 A := by
  exact enter (by decide) (Nat.le_of_ble_eq_true rfl) (fun p e s m below meth c ls C0 hP hS hl => ww_MO_next_0 C0 hap FU x v0 ho_v0 hf _ _ _ hP hS hl)
theorem cl_MO_147 {p : Program} {l : Launch} {e : Env} {R : Room} {s : State} {m : MethodId} {args : Array Value} {below : List Frame} {meth : Method} {c : Code} {H : Heap} {locs : List Loc} {cells slots : Nat} {Q : State → Prop} {cc : ByteArray} {pc : Nat} {ls : Array Slot} {rest : List Value} {E : Ev} {A : Nat → Prop} {ad : Nat → Nat} {nL : Nat} {rt : Option FieldType} (C0 : Cx E A RMO cc nL rt p s m args meth c) (hap : Ap ad ixM A) {x x' : St} {v0 : Nat} {r : Unit} (ho_v0 : isO ixM v0 6) (hc : ff_MO_next x v0 = some (r, x')) (hP : Wd E ad ixM x H) (hS : va_S A s.heap H locs) (hR : rm_MO_next.frames + 1 ≤ R.frames ∧ 8 + (5 + 11) + rm_MO_next.locals ≤ R.locals) (hls : ls.size = nL) (hroom : (rest.map fun v => v.category).sum ≤ 8) (hdg : decode cc pc = .ok (.invokevirtual 147, 3)) (hf : cells ≤ R.cells ∧ slots ≤ R.slots) (kk : ∀ H1 locs1, Wd E ad ixM x' H1 → va_S A s.heap H1 locs1 → W p l e R s m args below meth c H1 locs1 cells slots Q (F0 m (pc + 3) ls (rest))) : W p l e R s m args below meth c H locs cells slots Q (F0 m pc ls (.ref (ad v0) :: rest)) :=
  rcV (n := 0) C0 (cc_MO_next hap ho_v0 hc) hP hS ho_v0 vcl_6 (by decide) gw_code_MO_next gw_m_MO_147 gw_inst_MO_next gw_sel_MO_next gw_ini_MO rfl rfl (by decide +kernel) rfl hR hls rfl hroom hdg hf (fun H1 locs1 a _ _ b => kk H1 locs1 a b)
abbrev rm_MO_due : Room := { frames := 2, cells := 0, slots := 0, locals := 46 }
theorem dd_MO_due_0 : decode bb_MO_due 0 = .ok (.aload_n 0, 1) := by decide +kernel
theorem dd_MO_due_1 : decode bb_MO_due 1 = .ok (.getfield 134, 3) := by decide +kernel
theorem dd_MO_due_4 : decode bb_MO_due 4 = .ok (.istore_n 2, 1) := by decide +kernel
theorem dd_MO_due_5 : decode bb_MO_due 5 = .ok (.aload_n 0, 1) := by decide +kernel
theorem dd_MO_due_6 : decode bb_MO_due 6 = .ok (.getfield 144, 3) := by decide +kernel
theorem dd_MO_due_9 : decode bb_MO_due 9 = .ok (.iconst (-1), 1) := by decide +kernel
theorem dd_MO_due_10 : decode bb_MO_due 10 = .ok (.if_icmp .ne 22, 3) := by decide +kernel
theorem dd_MO_due_13 : decode bb_MO_due 13 = .ok (.iload_n 1, 1) := by decide +kernel
theorem dd_MO_due_14 : decode bb_MO_due 14 = .ok (.ifCond .eq 10, 3) := by decide +kernel
theorem dd_MO_due_17 : decode bb_MO_due 17 = .ok (.aload_n 0, 1) := by decide +kernel
theorem dd_MO_due_18 : decode bb_MO_due 18 = .ok (.invokevirtual 147, 3) := by decide +kernel
theorem dd_MO_due_21 : decode bb_MO_due 21 = .ok (.goto 11, 3) := by decide +kernel
theorem dd_MO_due_24 : decode bb_MO_due 24 = .ok (.aload_n 0, 1) := by decide +kernel
theorem dd_MO_due_25 : decode bb_MO_due 25 = .ok (.aload_n 0, 1) := by decide +kernel
theorem dd_MO_due_26 : decode bb_MO_due 26 = .ok (.getfield 131, 3) := by decide +kernel
theorem dd_MO_due_29 : decode bb_MO_due 29 = .ok (.putfield 144, 3) := by decide +kernel
theorem dd_MO_due_32 : decode bb_MO_due 32 = .ok (.iload_n 2, 1) := by decide +kernel
theorem dd_MO_due_33 : decode bb_MO_due 33 = .ok (.ireturn, 1) := by decide +kernel
def ff_MO_due  (x : St) (v0 : Nat) (v1 : Int32) : Option (Int32 × St) := (if (gi x v0 12) = (-1) then (if v1 = 0 then st (si x v0 12 (gi x v0 9)) (fun x_3 => some (gi x v0 11, x_3)) else bnd (ff_MO_next x v0) (fun _ x_5 => some (gi x v0 11, x_5))) else some (gi x v0 11, x))
set_option maxHeartbeats 4000000 in
set_option maxRecDepth 100000 in
theorem ww_MO_due {p : Program} {l : Launch} {e : Env} {s : State} {m : MethodId} {args : Array Value} {below : List Frame} {meth : Method} {c : Code} {E : Ev} {A : Nat → Prop} {ad : Nat → Nat} {r : Int32} {x' : St} (C0 : Cx E A RMO bb_MO_due 3 (some .int) p s m args meth c) (hap : Ap ad ixM A)  {x : St} {v0 : Nat} {v1 : Int32} (ho_v0 : isO ixM v0 6) (hf : ff_MO_due x v0 v1 = some (r, x')) {H : Heap} {locs : List Loc} {ls : Array Slot} (hP : Wd E ad ixM x H) (hS : va_S A s.heap H locs) (hl : lv_has ls 3 [(0, .ref (ad v0)), (1, .int v1)]) : W p l e rm_MO_due s m args below meth c H locs 0 0 (MQ below (QX E ad ixM A (some (.int r)) x') args s 0 0 A) (F0 m 0 ls []) := by
  obtain ⟨hx, hb, hml, hr, hown, hts, hlk, hK⟩ := id C0
  have hf : (if (gi x v0 12) = (-1) then (if v1 = 0 then st (si x v0 12 (gi x v0 9)) (fun x_3 => some (gi x v0 11, x_3)) else bnd (ff_MO_next x v0) (fun _ x_5 => some (gi x v0 11, x_5))) else some (gi x v0 11, x)) = some (r, x') := hf
  refine lv_aload_n hx hb dd_MO_due_0 rfl (lv_at hl 0 rfl) ?_
  refine gf_MO_134 C0 hP ho_v0 dd_MO_due_1 ?_
  refine lv_istore_n (lv' := [(2, .int (gi x v0 11)), (0, .ref (ad v0)), (1, .int v1)]) hx hb dd_MO_due_4 rfl hl (by decide) rfl (fun ls hl => ?_)
  refine lv_aload_n hx hb dd_MO_due_5 rfl (lv_at hl 1 rfl) ?_
  refine gf_MO_144 C0 hP ho_v0 dd_MO_due_6 ?_
  refine lv_iconst (v := -1) hx hb dd_MO_due_9 (by decide) ?_
  refine lv_icmp_ne (tgt := 32) hx hb dd_MO_due_10 (by decide) (fun h_1 => ?_) (fun h_1 => ?_)
  · have hf := (if_neg h_1).symm.trans hf
    refine lv_iload_n hx hb dd_MO_due_32 rfl (lv_at hl 0 rfl) ?_
    exact rrI C0 hP hS dd_MO_due_33 hf
  · have hf := (if_pos h_1).symm.trans hf
    refine lv_iload_n hx hb dd_MO_due_13 rfl (lv_at hl 2 rfl) ?_
    refine lv_if_eq (tgt := 24) hx hb dd_MO_due_14 (by decide) (fun h_2 => ?_) (fun h_2 => ?_)
    · have hf := (if_pos h_2).symm.trans hf
      refine lv_aload_n hx hb dd_MO_due_24 rfl (lv_at hl 1 rfl) ?_
      refine lv_aload_n hx hb dd_MO_due_25 rfl (lv_at hl 1 rfl) ?_
      refine gf_MO_131 C0 hP ho_v0 dd_MO_due_26 ?_
      obtain ⟨x_3, hx_3, hf⟩ := of_st hf
      refine pf_MO_144 C0 hap hP hS ho_v0 hx_3 dd_MO_due_29 (fun H locs hP hS => ?_)
      refine lv_iload_n hx hb dd_MO_due_32 rfl (lv_at hl 0 rfl) ?_
      exact rrI C0 hP hS dd_MO_due_33 hf
    · have hf := (if_neg h_2).symm.trans hf
      refine lv_aload_n hx hb dd_MO_due_17 rfl (lv_at hl 1 rfl) ?_
      obtain ⟨_, x_5, c_6, hf⟩ := of_bnd hf
      refine cl_MO_147 C0 hap ho_v0 c_6 hP hS ⟨Nat.le_of_ble_eq_true rfl, Nat.le_of_ble_eq_true rfl⟩ hl.1 (Nat.le_of_ble_eq_true rfl) dd_MO_due_18 ⟨Nat.le_refl _, Nat.le_refl _⟩ (fun H locs hP hS => ?_)
      refine lv_goto (tgt := 32) hx hb dd_MO_due_21 (by decide) ?_
      refine lv_iload_n hx hb dd_MO_due_32 rfl (lv_at hl 0 rfl) ?_
      exact rrI C0 hP hS dd_MO_due_33 hf
theorem cc_MO_due {l : Launch} {E : Ev} {A : Nat → Prop} {ad : Nat → Nat} (hap : Ap ad ixM A) {x x' : St} {v0 : Nat} {v1 : Int32} {r : Int32} (ho_v0 : isO ixM v0 6) (hf : ff_MO_due x v0 v1 = some (r, x')) : Met l yy_MO_due (Cond.code yy_MO_due bb_MO_due 3 (some .int) :: gtb) rm_MO_due (va_Pc [.ref (ad v0), .int v1] (PB E A ad ixM x)) (QX E ad ixM A (some (.int r)) x') 0 0 A := by
  exact enter (by decide) (Nat.le_of_ble_eq_true rfl) (fun p e s m below meth c ls C0 hP hS hl => ww_MO_due C0 hap ho_v0 hf hP hS hl)
abbrev rm_MO_isNumber : Room := { frames := 1, cells := 0, slots := 0, locals := 22 }
theorem dd_MO_isNumber_0 : decode bb_MO_isNumber 0 = .ok (.aload_n 0, 1) := by decide +kernel
theorem dd_MO_isNumber_1 : decode bb_MO_isNumber 1 = .ok (.getfield 137, 3) := by decide +kernel
theorem dd_MO_isNumber_4 : decode bb_MO_isNumber 4 = .ok (.bipush 7, 2) := by decide +kernel
theorem dd_MO_isNumber_6 : decode bb_MO_isNumber 6 = .ok (.if_icmp .ne 19, 3) := by decide +kernel
theorem dd_MO_isNumber_9 : decode bb_MO_isNumber 9 = .ok (.aload_n 0, 1) := by decide +kernel
theorem dd_MO_isNumber_10 : decode bb_MO_isNumber 10 = .ok (.getfield 134, 3) := by decide +kernel
theorem dd_MO_isNumber_13 : decode bb_MO_isNumber 13 = .ok (.iload_n 1, 1) := by decide +kernel
theorem dd_MO_isNumber_14 : decode bb_MO_isNumber 14 = .ok (.iload_n 2, 1) := by decide +kernel
theorem dd_MO_isNumber_15 : decode bb_MO_isNumber 15 = .ok (.invokestatic 64, 3) := by decide +kernel
theorem dd_MO_isNumber_18 : decode bb_MO_isNumber 18 = .ok (.ifCond .eq 7, 3) := by decide +kernel
theorem dd_MO_isNumber_21 : decode bb_MO_isNumber 21 = .ok (.iconst 1, 1) := by decide +kernel
theorem dd_MO_isNumber_22 : decode bb_MO_isNumber 22 = .ok (.goto 4, 3) := by decide +kernel
theorem dd_MO_isNumber_25 : decode bb_MO_isNumber 25 = .ok (.iconst 0, 1) := by decide +kernel
theorem dd_MO_isNumber_26 : decode bb_MO_isNumber 26 = .ok (.ireturn, 1) := by decide +kernel
def ff_MO_isNumber  (x : St) (v0 : Nat) (v1 : Int32) (v2 : Int32) : Option (Int32 × St) := (if (gi x v0 10) = 7 then bnd (ff_MO_in x (gi x v0 11) v1 v2) (fun r_2 x_3 => (if r_2 = 0 then some (0, x_3) else some (1, x_3))) else some (0, x))
set_option maxHeartbeats 4000000 in
set_option maxRecDepth 100000 in
theorem ww_MO_isNumber {p : Program} {l : Launch} {e : Env} {s : State} {m : MethodId} {args : Array Value} {below : List Frame} {meth : Method} {c : Code} {E : Ev} {A : Nat → Prop} {ad : Nat → Nat} {r : Int32} {x' : St} (C0 : Cx E A RMO bb_MO_isNumber 3 (some .boolean) p s m args meth c) (hap : Ap ad ixM A)  {x : St} {v0 : Nat} {v1 : Int32} {v2 : Int32} (ho_v0 : isO ixM v0 6) (hf : ff_MO_isNumber x v0 v1 v2 = some (r, x')) {H : Heap} {locs : List Loc} {ls : Array Slot} (hP : Wd E ad ixM x H) (hS : va_S A s.heap H locs) (hl : lv_has ls 3 [(0, .ref (ad v0)), (1, .int v1), (2, .int v2)]) : W p l e rm_MO_isNumber s m args below meth c H locs 0 0 (MQ below (QX E ad ixM A (some (.int r)) x') args s 0 0 A) (F0 m 0 ls []) := by
  obtain ⟨hx, hb, hml, hr, hown, hts, hlk, hK⟩ := id C0
  have hf : (if (gi x v0 10) = 7 then bnd (ff_MO_in x (gi x v0 11) v1 v2) (fun r_2 x_3 => (if r_2 = 0 then some (0, x_3) else some (1, x_3))) else some (0, x)) = some (r, x') := hf
  refine lv_aload_n hx hb dd_MO_isNumber_0 rfl (lv_at hl 0 rfl) ?_
  refine gf_MO_137 C0 hP ho_v0 dd_MO_isNumber_1 ?_
  refine lv_bipush (v := 7) hx hb dd_MO_isNumber_4 (by decide) ?_
  refine lv_icmp_ne (tgt := 25) hx hb dd_MO_isNumber_6 (by decide) (fun h_1 => ?_) (fun h_1 => ?_)
  · have hf := (if_neg h_1).symm.trans hf
    refine lv_iconst (v := 0) hx hb dd_MO_isNumber_25 (by decide) ?_
    exact rrZ C0 hP hS (by decide) dd_MO_isNumber_26 hf
  · have hf := (if_pos h_1).symm.trans hf
    refine lv_aload_n hx hb dd_MO_isNumber_9 rfl (lv_at hl 0 rfl) ?_
    refine gf_MO_134 C0 hP ho_v0 dd_MO_isNumber_10 ?_
    refine lv_iload_n hx hb dd_MO_isNumber_13 rfl (lv_at hl 1 rfl) ?_
    refine lv_iload_n hx hb dd_MO_isNumber_14 rfl (lv_at hl 2 rfl) ?_
    obtain ⟨r_2, x_3, c_4, hf⟩ := of_bnd hf
    refine cl_MO_64 C0 hap  c_4 hP hS ⟨Nat.le_of_ble_eq_true rfl, Nat.le_of_ble_eq_true rfl⟩ hl.1 (Nat.le_of_ble_eq_true rfl) dd_MO_isNumber_15 ⟨Nat.le_refl _, Nat.le_refl _⟩ (fun H locs hP hS => ?_)
    refine lv_if_eq (tgt := 25) hx hb dd_MO_isNumber_18 (by decide) (fun h_5 => ?_) (fun h_5 => ?_)
    · have hf := (if_pos h_5).symm.trans hf
      refine lv_iconst (v := 0) hx hb dd_MO_isNumber_25 (by decide) ?_
      exact rrZ C0 hP hS (by decide) dd_MO_isNumber_26 hf
    · have hf := (if_neg h_5).symm.trans hf
      refine lv_iconst (v := 1) hx hb dd_MO_isNumber_21 (by decide) ?_
      refine lv_goto (tgt := 26) hx hb dd_MO_isNumber_22 (by decide) ?_
      exact rrZ C0 hP hS (by decide) dd_MO_isNumber_26 hf
theorem cc_MO_isNumber {l : Launch} {E : Ev} {A : Nat → Prop} {ad : Nat → Nat} (hap : Ap ad ixM A) {x x' : St} {v0 : Nat} {v1 : Int32} {v2 : Int32} {r : Int32} (ho_v0 : isO ixM v0 6) (hf : ff_MO_isNumber x v0 v1 v2 = some (r, x')) : Met l yy_MO_isNumber (Cond.code yy_MO_isNumber bb_MO_isNumber 3 (some .boolean) :: gtb) rm_MO_isNumber (va_Pc [.ref (ad v0), .int v1, .int v2] (PB E A ad ixM x)) (QX E ad ixM A (some (.int r)) x') 0 0 A := by
  exact enter (by decide) (Nat.le_of_ble_eq_true rfl) (fun p e s m below meth c ls C0 hP hS hl => ww_MO_isNumber C0 hap ho_v0 hf hP hS hl)
abbrev rm_MO_mayBe : Room := { frames := 1, cells := 0, slots := 0, locals := 21 }
theorem dd_MO_mayBe_0 : decode bb_MO_mayBe 0 = .ok (.iload_n 1, 1) := by decide +kernel
theorem dd_MO_mayBe_1 : decode bb_MO_mayBe 1 = .ok (.tableswitch 98 0 4 #[35, 51, 67, 82, 82], 35) := by decide +kernel
theorem dd_MO_mayBe_36 : decode bb_MO_mayBe 36 = .ok (.aload_n 0, 1) := by decide +kernel
theorem dd_MO_mayBe_37 : decode bb_MO_mayBe 37 = .ok (.iconst 0, 1) := by decide +kernel
theorem dd_MO_mayBe_38 : decode bb_MO_mayBe 38 = .ok (.invokevirtual 60, 3) := by decide +kernel
theorem dd_MO_mayBe_41 : decode bb_MO_mayBe 41 = .ok (.bipush 6, 2) := by decide +kernel
theorem dd_MO_mayBe_43 : decode bb_MO_mayBe 43 = .ok (.if_icmp .ge 7, 3) := by decide +kernel
theorem dd_MO_mayBe_46 : decode bb_MO_mayBe 46 = .ok (.iconst 1, 1) := by decide +kernel
theorem dd_MO_mayBe_47 : decode bb_MO_mayBe 47 = .ok (.goto 4, 3) := by decide +kernel
theorem dd_MO_mayBe_50 : decode bb_MO_mayBe 50 = .ok (.iconst 0, 1) := by decide +kernel
theorem dd_MO_mayBe_51 : decode bb_MO_mayBe 51 = .ok (.ireturn, 1) := by decide +kernel
theorem dd_MO_mayBe_52 : decode bb_MO_mayBe 52 = .ok (.aload_n 0, 1) := by decide +kernel
theorem dd_MO_mayBe_53 : decode bb_MO_mayBe 53 = .ok (.iconst 1, 1) := by decide +kernel
theorem dd_MO_mayBe_54 : decode bb_MO_mayBe 54 = .ok (.invokevirtual 60, 3) := by decide +kernel
theorem dd_MO_mayBe_57 : decode bb_MO_mayBe 57 = .ok (.bipush 6, 2) := by decide +kernel
theorem dd_MO_mayBe_59 : decode bb_MO_mayBe 59 = .ok (.if_icmp .ge 7, 3) := by decide +kernel
theorem dd_MO_mayBe_62 : decode bb_MO_mayBe 62 = .ok (.iconst 1, 1) := by decide +kernel
theorem dd_MO_mayBe_63 : decode bb_MO_mayBe 63 = .ok (.goto 4, 3) := by decide +kernel
theorem dd_MO_mayBe_66 : decode bb_MO_mayBe 66 = .ok (.iconst 0, 1) := by decide +kernel
theorem dd_MO_mayBe_67 : decode bb_MO_mayBe 67 = .ok (.ireturn, 1) := by decide +kernel
theorem dd_MO_mayBe_68 : decode bb_MO_mayBe 68 = .ok (.aload_n 0, 1) := by decide +kernel
theorem dd_MO_mayBe_69 : decode bb_MO_mayBe 69 = .ok (.iconst 2, 1) := by decide +kernel
theorem dd_MO_mayBe_70 : decode bb_MO_mayBe 70 = .ok (.invokevirtual 60, 3) := by decide +kernel
theorem dd_MO_mayBe_73 : decode bb_MO_mayBe 73 = .ok (.iconst 4, 1) := by decide +kernel
theorem dd_MO_mayBe_74 : decode bb_MO_mayBe 74 = .ok (.if_icmp .ge 7, 3) := by decide +kernel
theorem dd_MO_mayBe_77 : decode bb_MO_mayBe 77 = .ok (.iconst 1, 1) := by decide +kernel
theorem dd_MO_mayBe_78 : decode bb_MO_mayBe 78 = .ok (.goto 4, 3) := by decide +kernel
theorem dd_MO_mayBe_81 : decode bb_MO_mayBe 81 = .ok (.iconst 0, 1) := by decide +kernel
theorem dd_MO_mayBe_82 : decode bb_MO_mayBe 82 = .ok (.ireturn, 1) := by decide +kernel
theorem dd_MO_mayBe_83 : decode bb_MO_mayBe 83 = .ok (.aload_n 0, 1) := by decide +kernel
theorem dd_MO_mayBe_84 : decode bb_MO_mayBe 84 = .ok (.iconst 3, 1) := by decide +kernel
theorem dd_MO_mayBe_85 : decode bb_MO_mayBe 85 = .ok (.invokevirtual 60, 3) := by decide +kernel
theorem dd_MO_mayBe_88 : decode bb_MO_mayBe 88 = .ok (.bipush 10, 2) := by decide +kernel
theorem dd_MO_mayBe_90 : decode bb_MO_mayBe 90 = .ok (.if_icmp .ge 7, 3) := by decide +kernel
theorem dd_MO_mayBe_93 : decode bb_MO_mayBe 93 = .ok (.iconst 1, 1) := by decide +kernel
theorem dd_MO_mayBe_94 : decode bb_MO_mayBe 94 = .ok (.goto 4, 3) := by decide +kernel
theorem dd_MO_mayBe_97 : decode bb_MO_mayBe 97 = .ok (.iconst 0, 1) := by decide +kernel
theorem dd_MO_mayBe_98 : decode bb_MO_mayBe 98 = .ok (.ireturn, 1) := by decide +kernel
theorem dd_MO_mayBe_99 : decode bb_MO_mayBe 99 = .ok (.iload_n 1, 1) := by decide +kernel
theorem dd_MO_mayBe_100 : decode bb_MO_mayBe 100 = .ok (.iconst 5, 1) := by decide +kernel
theorem dd_MO_mayBe_101 : decode bb_MO_mayBe 101 = .ok (.if_icmp .eq 9, 3) := by decide +kernel
theorem dd_MO_mayBe_104 : decode bb_MO_mayBe 104 = .ok (.iload_n 1, 1) := by decide +kernel
theorem dd_MO_mayBe_105 : decode bb_MO_mayBe 105 = .ok (.bipush 6, 2) := by decide +kernel
theorem dd_MO_mayBe_107 : decode bb_MO_mayBe 107 = .ok (.if_icmp .ne 7, 3) := by decide +kernel
theorem dd_MO_mayBe_110 : decode bb_MO_mayBe 110 = .ok (.iconst 1, 1) := by decide +kernel
theorem dd_MO_mayBe_111 : decode bb_MO_mayBe 111 = .ok (.goto 4, 3) := by decide +kernel
theorem dd_MO_mayBe_114 : decode bb_MO_mayBe 114 = .ok (.iconst 0, 1) := by decide +kernel
theorem dd_MO_mayBe_115 : decode bb_MO_mayBe 115 = .ok (.ireturn, 1) := by decide +kernel
def ff_MO_mayBe  (x : St) (v0 : Nat) (v1 : Int32) : Option (Int32 × St) := (if v1 = 0 then bnd (ff_MO_get x v0 0) (fun r_2 x_3 => (if 6 ≤ r_2 then some (0, x_3) else some (1, x_3))) else (if v1 = 1 then bnd (ff_MO_get x v0 1) (fun r_7 x_8 => (if 6 ≤ r_7 then some (0, x_8) else some (1, x_8))) else (if v1 = 2 then bnd (ff_MO_get x v0 2) (fun r_12 x_13 => (if 4 ≤ r_12 then some (0, x_13) else some (1, x_13))) else (if v1 = 3 then bnd (ff_MO_get x v0 3) (fun r_17 x_18 => (if 10 ≤ r_17 then some (0, x_18) else some (1, x_18))) else (if v1 = 4 then bnd (ff_MO_get x v0 3) (fun r_22 x_23 => (if 10 ≤ r_22 then some (0, x_23) else some (1, x_23))) else (if v1 = 5 then some (1, x) else (if v1 = 6 then some (1, x) else some (0, x))))))))
set_option maxHeartbeats 4000000 in
set_option maxRecDepth 100000 in
theorem ww_MO_mayBe {p : Program} {l : Launch} {e : Env} {s : State} {m : MethodId} {args : Array Value} {below : List Frame} {meth : Method} {c : Code} {E : Ev} {A : Nat → Prop} {ad : Nat → Nat} {r : Int32} {x' : St} (C0 : Cx E A RMO bb_MO_mayBe 2 (some .boolean) p s m args meth c) (hap : Ap ad ixM A)  {x : St} {v0 : Nat} {v1 : Int32} (ho_v0 : isO ixM v0 6) (hf : ff_MO_mayBe x v0 v1 = some (r, x')) {H : Heap} {locs : List Loc} {ls : Array Slot} (hP : Wd E ad ixM x H) (hS : va_S A s.heap H locs) (hl : lv_has ls 2 [(0, .ref (ad v0)), (1, .int v1)]) : W p l e rm_MO_mayBe s m args below meth c H locs 0 0 (MQ below (QX E ad ixM A (some (.int r)) x') args s 0 0 A) (F0 m 0 ls []) := by
  obtain ⟨hx, hb, hml, hr, hown, hts, hlk, hK⟩ := id C0
  have hf : (if v1 = 0 then bnd (ff_MO_get x v0 0) (fun r_2 x_3 => (if 6 ≤ r_2 then some (0, x_3) else some (1, x_3))) else (if v1 = 1 then bnd (ff_MO_get x v0 1) (fun r_7 x_8 => (if 6 ≤ r_7 then some (0, x_8) else some (1, x_8))) else (if v1 = 2 then bnd (ff_MO_get x v0 2) (fun r_12 x_13 => (if 4 ≤ r_12 then some (0, x_13) else some (1, x_13))) else (if v1 = 3 then bnd (ff_MO_get x v0 3) (fun r_17 x_18 => (if 10 ≤ r_17 then some (0, x_18) else some (1, x_18))) else (if v1 = 4 then bnd (ff_MO_get x v0 3) (fun r_22 x_23 => (if 10 ≤ r_22 then some (0, x_23) else some (1, x_23))) else (if v1 = 5 then some (1, x) else (if v1 = 6 then some (1, x) else some (0, x)))))))) = some (r, x') := hf
  refine lv_iload_n hx hb dd_MO_mayBe_0 rfl (lv_at hl 1 rfl) ?_
  by_cases h_1 : v1 = 0
  · have hf := (if_pos h_1).symm.trans hf
    refine lv_tableIn (off := 35) (tgt := 36) hx hb dd_MO_mayBe_1 (by rw [h_1]; decide) (by rw [h_1]; decide) (by rw [h_1]; decide) (by decide) ?_
    refine lv_aload_n hx hb dd_MO_mayBe_36 rfl (lv_at hl 0 rfl) ?_
    refine lv_iconst (v := 0) hx hb dd_MO_mayBe_37 (by decide) ?_
    obtain ⟨r_2, x_3, c_4, hf⟩ := of_bnd hf
    refine cl_MO_60 C0 hap ho_v0 c_4 hP hS ⟨Nat.le_of_ble_eq_true rfl, Nat.le_of_ble_eq_true rfl⟩ hl.1 (Nat.le_of_ble_eq_true rfl) dd_MO_mayBe_38 ⟨Nat.le_refl _, Nat.le_refl _⟩ (fun H locs hP hS => ?_)
    refine lv_bipush (v := 6) hx hb dd_MO_mayBe_41 (by decide) ?_
    refine lv_icmp_ge (tgt := 50) hx hb dd_MO_mayBe_43 (by decide) (fun h_5 => ?_) (fun h_5 => ?_)
    · have hf := (if_pos h_5).symm.trans hf
      refine lv_iconst (v := 0) hx hb dd_MO_mayBe_50 (by decide) ?_
      exact rrZ C0 hP hS (by decide) dd_MO_mayBe_51 hf
    · have hf := (if_neg h_5).symm.trans hf
      refine lv_iconst (v := 1) hx hb dd_MO_mayBe_46 (by decide) ?_
      refine lv_goto (tgt := 51) hx hb dd_MO_mayBe_47 (by decide) ?_
      exact rrZ C0 hP hS (by decide) dd_MO_mayBe_51 hf
  have hf := (if_neg h_1).symm.trans hf
  by_cases h_6 : v1 = 1
  · have hf := (if_pos h_6).symm.trans hf
    refine lv_tableIn (off := 51) (tgt := 52) hx hb dd_MO_mayBe_1 (by rw [h_6]; decide) (by rw [h_6]; decide) (by rw [h_6]; decide) (by decide) ?_
    refine lv_aload_n hx hb dd_MO_mayBe_52 rfl (lv_at hl 0 rfl) ?_
    refine lv_iconst (v := 1) hx hb dd_MO_mayBe_53 (by decide) ?_
    obtain ⟨r_7, x_8, c_9, hf⟩ := of_bnd hf
    refine cl_MO_60 C0 hap ho_v0 c_9 hP hS ⟨Nat.le_of_ble_eq_true rfl, Nat.le_of_ble_eq_true rfl⟩ hl.1 (Nat.le_of_ble_eq_true rfl) dd_MO_mayBe_54 ⟨Nat.le_refl _, Nat.le_refl _⟩ (fun H locs hP hS => ?_)
    refine lv_bipush (v := 6) hx hb dd_MO_mayBe_57 (by decide) ?_
    refine lv_icmp_ge (tgt := 66) hx hb dd_MO_mayBe_59 (by decide) (fun h_10 => ?_) (fun h_10 => ?_)
    · have hf := (if_pos h_10).symm.trans hf
      refine lv_iconst (v := 0) hx hb dd_MO_mayBe_66 (by decide) ?_
      exact rrZ C0 hP hS (by decide) dd_MO_mayBe_67 hf
    · have hf := (if_neg h_10).symm.trans hf
      refine lv_iconst (v := 1) hx hb dd_MO_mayBe_62 (by decide) ?_
      refine lv_goto (tgt := 67) hx hb dd_MO_mayBe_63 (by decide) ?_
      exact rrZ C0 hP hS (by decide) dd_MO_mayBe_67 hf
  have hf := (if_neg h_6).symm.trans hf
  by_cases h_11 : v1 = 2
  · have hf := (if_pos h_11).symm.trans hf
    refine lv_tableIn (off := 67) (tgt := 68) hx hb dd_MO_mayBe_1 (by rw [h_11]; decide) (by rw [h_11]; decide) (by rw [h_11]; decide) (by decide) ?_
    refine lv_aload_n hx hb dd_MO_mayBe_68 rfl (lv_at hl 0 rfl) ?_
    refine lv_iconst (v := 2) hx hb dd_MO_mayBe_69 (by decide) ?_
    obtain ⟨r_12, x_13, c_14, hf⟩ := of_bnd hf
    refine cl_MO_60 C0 hap ho_v0 c_14 hP hS ⟨Nat.le_of_ble_eq_true rfl, Nat.le_of_ble_eq_true rfl⟩ hl.1 (Nat.le_of_ble_eq_true rfl) dd_MO_mayBe_70 ⟨Nat.le_refl _, Nat.le_refl _⟩ (fun H locs hP hS => ?_)
    refine lv_iconst (v := 4) hx hb dd_MO_mayBe_73 (by decide) ?_
    refine lv_icmp_ge (tgt := 81) hx hb dd_MO_mayBe_74 (by decide) (fun h_15 => ?_) (fun h_15 => ?_)
    · have hf := (if_pos h_15).symm.trans hf
      refine lv_iconst (v := 0) hx hb dd_MO_mayBe_81 (by decide) ?_
      exact rrZ C0 hP hS (by decide) dd_MO_mayBe_82 hf
    · have hf := (if_neg h_15).symm.trans hf
      refine lv_iconst (v := 1) hx hb dd_MO_mayBe_77 (by decide) ?_
      refine lv_goto (tgt := 82) hx hb dd_MO_mayBe_78 (by decide) ?_
      exact rrZ C0 hP hS (by decide) dd_MO_mayBe_82 hf
  have hf := (if_neg h_11).symm.trans hf
  by_cases h_16 : v1 = 3
  · have hf := (if_pos h_16).symm.trans hf
    refine lv_tableIn (off := 82) (tgt := 83) hx hb dd_MO_mayBe_1 (by rw [h_16]; decide) (by rw [h_16]; decide) (by rw [h_16]; decide) (by decide) ?_
    refine lv_aload_n hx hb dd_MO_mayBe_83 rfl (lv_at hl 0 rfl) ?_
    refine lv_iconst (v := 3) hx hb dd_MO_mayBe_84 (by decide) ?_
    obtain ⟨r_17, x_18, c_19, hf⟩ := of_bnd hf
    refine cl_MO_60 C0 hap ho_v0 c_19 hP hS ⟨Nat.le_of_ble_eq_true rfl, Nat.le_of_ble_eq_true rfl⟩ hl.1 (Nat.le_of_ble_eq_true rfl) dd_MO_mayBe_85 ⟨Nat.le_refl _, Nat.le_refl _⟩ (fun H locs hP hS => ?_)
    refine lv_bipush (v := 10) hx hb dd_MO_mayBe_88 (by decide) ?_
    refine lv_icmp_ge (tgt := 97) hx hb dd_MO_mayBe_90 (by decide) (fun h_20 => ?_) (fun h_20 => ?_)
    · have hf := (if_pos h_20).symm.trans hf
      refine lv_iconst (v := 0) hx hb dd_MO_mayBe_97 (by decide) ?_
      exact rrZ C0 hP hS (by decide) dd_MO_mayBe_98 hf
    · have hf := (if_neg h_20).symm.trans hf
      refine lv_iconst (v := 1) hx hb dd_MO_mayBe_93 (by decide) ?_
      refine lv_goto (tgt := 98) hx hb dd_MO_mayBe_94 (by decide) ?_
      exact rrZ C0 hP hS (by decide) dd_MO_mayBe_98 hf
  have hf := (if_neg h_16).symm.trans hf
  by_cases h_21 : v1 = 4
  · have hf := (if_pos h_21).symm.trans hf
    refine lv_tableIn (off := 82) (tgt := 83) hx hb dd_MO_mayBe_1 (by rw [h_21]; decide) (by rw [h_21]; decide) (by rw [h_21]; decide) (by decide) ?_
    refine lv_aload_n hx hb dd_MO_mayBe_83 rfl (lv_at hl 0 rfl) ?_
    refine lv_iconst (v := 3) hx hb dd_MO_mayBe_84 (by decide) ?_
    obtain ⟨r_22, x_23, c_24, hf⟩ := of_bnd hf
    refine cl_MO_60 C0 hap ho_v0 c_24 hP hS ⟨Nat.le_of_ble_eq_true rfl, Nat.le_of_ble_eq_true rfl⟩ hl.1 (Nat.le_of_ble_eq_true rfl) dd_MO_mayBe_85 ⟨Nat.le_refl _, Nat.le_refl _⟩ (fun H locs hP hS => ?_)
    refine lv_bipush (v := 10) hx hb dd_MO_mayBe_88 (by decide) ?_
    refine lv_icmp_ge (tgt := 97) hx hb dd_MO_mayBe_90 (by decide) (fun h_25 => ?_) (fun h_25 => ?_)
    · have hf := (if_pos h_25).symm.trans hf
      refine lv_iconst (v := 0) hx hb dd_MO_mayBe_97 (by decide) ?_
      exact rrZ C0 hP hS (by decide) dd_MO_mayBe_98 hf
    · have hf := (if_neg h_25).symm.trans hf
      refine lv_iconst (v := 1) hx hb dd_MO_mayBe_93 (by decide) ?_
      refine lv_goto (tgt := 98) hx hb dd_MO_mayBe_94 (by decide) ?_
      exact rrZ C0 hP hS (by decide) dd_MO_mayBe_98 hf
  have hf := (if_neg h_21).symm.trans hf
  refine lv_tableOut (tgt := 99) hx hb dd_MO_mayBe_1 (by have z0 := lv_neT h_1 (a := 0) (by decide); have z1 := lv_neT h_6 (a := 1) (by decide); have z2 := lv_neT h_11 (a := 2) (by decide); have z3 := lv_neT h_16 (a := 3) (by decide); have z4 := lv_neT h_21 (a := 4) (by decide); omega) (by decide) ?_
  refine lv_iload_n hx hb dd_MO_mayBe_99 rfl (lv_at hl 1 rfl) ?_
  refine lv_iconst (v := 5) hx hb dd_MO_mayBe_100 (by decide) ?_
  refine lv_icmp_eq (tgt := 110) hx hb dd_MO_mayBe_101 (by decide) (fun h_26 => ?_) (fun h_26 => ?_)
  · have hf := (if_pos h_26).symm.trans hf
    refine lv_iconst (v := 1) hx hb dd_MO_mayBe_110 (by decide) ?_
    refine lv_goto (tgt := 115) hx hb dd_MO_mayBe_111 (by decide) ?_
    exact rrZ C0 hP hS (by decide) dd_MO_mayBe_115 hf
  · have hf := (if_neg h_26).symm.trans hf
    refine lv_iload_n hx hb dd_MO_mayBe_104 rfl (lv_at hl 1 rfl) ?_
    refine lv_bipush (v := 6) hx hb dd_MO_mayBe_105 (by decide) ?_
    refine lv_icmp_ne (tgt := 114) hx hb dd_MO_mayBe_107 (by decide) (fun h_27 => ?_) (fun h_27 => ?_)
    · have hf := (if_neg h_27).symm.trans hf
      refine lv_iconst (v := 0) hx hb dd_MO_mayBe_114 (by decide) ?_
      exact rrZ C0 hP hS (by decide) dd_MO_mayBe_115 hf
    · have hf := (if_pos h_27).symm.trans hf
      refine lv_iconst (v := 1) hx hb dd_MO_mayBe_110 (by decide) ?_
      refine lv_goto (tgt := 115) hx hb dd_MO_mayBe_111 (by decide) ?_
      exact rrZ C0 hP hS (by decide) dd_MO_mayBe_115 hf
theorem cc_MO_mayBe {l : Launch} {E : Ev} {A : Nat → Prop} {ad : Nat → Nat} (hap : Ap ad ixM A) {x x' : St} {v0 : Nat} {v1 : Int32} {r : Int32} (ho_v0 : isO ixM v0 6) (hf : ff_MO_mayBe x v0 v1 = some (r, x')) : Met l yy_MO_mayBe (Cond.code yy_MO_mayBe bb_MO_mayBe 2 (some .boolean) :: gtb) rm_MO_mayBe (va_Pc [.ref (ad v0), .int v1] (PB E A ad ixM x)) (QX E ad ixM A (some (.int r)) x') 0 0 A := by
  exact enter (by decide) (Nat.le_of_ble_eq_true rfl) (fun p e s m below meth c ls C0 hP hS hl => ww_MO_mayBe C0 hap ho_v0 hf hP hS hl)
theorem cl_MO_150 {p : Program} {l : Launch} {e : Env} {R : Room} {s : State} {m : MethodId} {args : Array Value} {below : List Frame} {meth : Method} {c : Code} {H : Heap} {locs : List Loc} {cells slots : Nat} {Q : State → Prop} {cc : ByteArray} {pc : Nat} {ls : Array Slot} {rest : List Value} {E : Ev} {A : Nat → Prop} {ad : Nat → Nat} {nL : Nat} {rt : Option FieldType} (C0 : Cx E A RMO cc nL rt p s m args meth c) (hap : Ap ad ixM A) {x x' : St} {v0 : Nat} {v1 : Int32} {v2 : Int32} {r : Int32} (ho_v0 : isO ixM v0 6) (hc : ff_MO_isNumber x v0 v1 v2 = some (r, x')) (hP : Wd E ad ixM x H) (hS : va_S A s.heap H locs) (hR : rm_MO_isNumber.frames + 1 ≤ R.frames ∧ 8 + (3 + 11) + rm_MO_isNumber.locals ≤ R.locals) (hls : ls.size = nL) (hroom : (rest.map fun v => v.category).sum ≤ 8) (hdg : decode cc pc = .ok (.invokevirtual 150, 3)) (hf : cells ≤ R.cells ∧ slots ≤ R.slots) (kk : ∀ H1 locs1, Wd E ad ixM x' H1 → va_S A s.heap H1 locs1 → W p l e R s m args below meth c H1 locs1 cells slots Q (F0 m (pc + 3) ls (.int r :: rest))) : W p l e R s m args below meth c H locs cells slots Q (F0 m pc ls (.int v2 :: .int v1 :: .ref (ad v0) :: rest)) :=
  rcV (n := 2) C0 (cc_MO_isNumber hap ho_v0 hc) hP hS ho_v0 vcl_6 (by decide) gw_code_MO_isNumber gw_m_MO_150 gw_inst_MO_isNumber gw_sel_MO_isNumber gw_ini_MO rfl rfl (by decide +kernel) rfl hR hls rfl hroom hdg hf (fun H1 locs1 a _ _ b => kk H1 locs1 a b)
theorem cl_MO_154 {p : Program} {l : Launch} {e : Env} {R : Room} {s : State} {m : MethodId} {args : Array Value} {below : List Frame} {meth : Method} {c : Code} {H : Heap} {locs : List Loc} {cells slots : Nat} {Q : State → Prop} {cc : ByteArray} {pc : Nat} {ls : Array Slot} {rest : List Value} {E : Ev} {A : Nat → Prop} {ad : Nat → Nat} {nL : Nat} {rt : Option FieldType} (C0 : Cx E A RMO cc nL rt p s m args meth c) (hap : Ap ad ixM A) {x x' : St} {v0 : Nat} {v1 : Int32} {r : Int32} (ho_v0 : isO ixM v0 6) (hc : ff_MO_due x v0 v1 = some (r, x')) (hP : Wd E ad ixM x H) (hS : va_S A s.heap H locs) (hR : rm_MO_due.frames + 1 ≤ R.frames ∧ 8 + (3 + 11) + rm_MO_due.locals ≤ R.locals) (hls : ls.size = nL) (hroom : (rest.map fun v => v.category).sum ≤ 8) (hdg : decode cc pc = .ok (.invokevirtual 154, 3)) (hf : cells ≤ R.cells ∧ slots ≤ R.slots) (kk : ∀ H1 locs1, Wd E ad ixM x' H1 → va_S A s.heap H1 locs1 → W p l e R s m args below meth c H1 locs1 cells slots Q (F0 m (pc + 3) ls (.int r :: rest))) : W p l e R s m args below meth c H locs cells slots Q (F0 m pc ls (.int v1 :: .ref (ad v0) :: rest)) :=
  rcV (n := 1) C0 (cc_MO_due hap ho_v0 hc) hP hS ho_v0 vcl_6 (by decide) gw_code_MO_due gw_m_MO_154 gw_inst_MO_due gw_sel_MO_due gw_ini_MO rfl rfl (by decide +kernel) rfl hR hls rfl hroom hdg hf (fun H1 locs1 a _ _ b => kk H1 locs1 a b)
abbrev rm_MO_readBoil : Room := { frames := 3, cells := 0, slots := 0, locals := 68 }
theorem dd_MO_readBoil_0 : decode bb_MO_readBoil 0 = .ok (.aload_n 0, 1) := by decide +kernel
theorem dd_MO_readBoil_1 : decode bb_MO_readBoil 1 = .ok (.aload_n 0, 1) := by decide +kernel
theorem dd_MO_readBoil_2 : decode bb_MO_readBoil 2 = .ok (.iconst 0, 1) := by decide +kernel
theorem dd_MO_readBoil_3 : decode bb_MO_readBoil 3 = .ok (.aload_n 0, 1) := by decide +kernel
theorem dd_MO_readBoil_4 : decode bb_MO_readBoil 4 = .ok (.iconst 1, 1) := by decide +kernel
theorem dd_MO_readBoil_5 : decode bb_MO_readBoil 5 = .ok (.invokevirtual 60, 3) := by decide +kernel
theorem dd_MO_readBoil_8 : decode bb_MO_readBoil 8 = .ok (.iconst 1, 1) := by decide +kernel
theorem dd_MO_readBoil_9 : decode bb_MO_readBoil 9 = .ok (.isub, 1) := by decide +kernel
theorem dd_MO_readBoil_10 : decode bb_MO_readBoil 10 = .ok (.invokevirtual 150, 3) := by decide +kernel
theorem dd_MO_readBoil_13 : decode bb_MO_readBoil 13 = .ok (.invokevirtual 154, 3) := by decide +kernel
theorem dd_MO_readBoil_16 : decode bb_MO_readBoil 16 = .ok (.istore_n 1, 1) := by decide +kernel
theorem dd_MO_readBoil_17 : decode bb_MO_readBoil 17 = .ok (.aload_n 0, 1) := by decide +kernel
theorem dd_MO_readBoil_18 : decode bb_MO_readBoil 18 = .ok (.aload_n 0, 1) := by decide +kernel
theorem dd_MO_readBoil_19 : decode bb_MO_readBoil 19 = .ok (.iconst 0, 1) := by decide +kernel
theorem dd_MO_readBoil_20 : decode bb_MO_readBoil 20 = .ok (.aload_n 0, 1) := by decide +kernel
theorem dd_MO_readBoil_21 : decode bb_MO_readBoil 21 = .ok (.iconst 0, 1) := by decide +kernel
theorem dd_MO_readBoil_22 : decode bb_MO_readBoil 22 = .ok (.invokevirtual 60, 3) := by decide +kernel
theorem dd_MO_readBoil_25 : decode bb_MO_readBoil 25 = .ok (.iconst 1, 1) := by decide +kernel
theorem dd_MO_readBoil_26 : decode bb_MO_readBoil 26 = .ok (.isub, 1) := by decide +kernel
theorem dd_MO_readBoil_27 : decode bb_MO_readBoil 27 = .ok (.invokevirtual 150, 3) := by decide +kernel
theorem dd_MO_readBoil_30 : decode bb_MO_readBoil 30 = .ok (.invokevirtual 154, 3) := by decide +kernel
theorem dd_MO_readBoil_33 : decode bb_MO_readBoil 33 = .ok (.istore_n 2, 1) := by decide +kernel
theorem dd_MO_readBoil_34 : decode bb_MO_readBoil 34 = .ok (.iconst (-1), 1) := by decide +kernel
theorem dd_MO_readBoil_35 : decode bb_MO_readBoil 35 = .ok (.istore_n 3, 1) := by decide +kernel
theorem dd_MO_readBoil_36 : decode bb_MO_readBoil 36 = .ok (.aload_n 0, 1) := by decide +kernel
theorem dd_MO_readBoil_37 : decode bb_MO_readBoil 37 = .ok (.getfield 144, 3) := by decide +kernel
theorem dd_MO_readBoil_40 : decode bb_MO_readBoil 40 = .ok (.iconst (-1), 1) := by decide +kernel
theorem dd_MO_readBoil_41 : decode bb_MO_readBoil 41 = .ok (.if_icmp .ne 45, 3) := by decide +kernel
theorem dd_MO_readBoil_44 : decode bb_MO_readBoil 44 = .ok (.aload_n 0, 1) := by decide +kernel
theorem dd_MO_readBoil_45 : decode bb_MO_readBoil 45 = .ok (.getfield 137, 3) := by decide +kernel
theorem dd_MO_readBoil_48 : decode bb_MO_readBoil 48 = .ok (.bipush 7, 2) := by decide +kernel
theorem dd_MO_readBoil_50 : decode bb_MO_readBoil 50 = .ok (.if_icmp .ne 36, 3) := by decide +kernel
theorem dd_MO_readBoil_53 : decode bb_MO_readBoil 53 = .ok (.aload_n 0, 1) := by decide +kernel
theorem dd_MO_readBoil_54 : decode bb_MO_readBoil 54 = .ok (.aload_n 0, 1) := by decide +kernel
theorem dd_MO_readBoil_55 : decode bb_MO_readBoil 55 = .ok (.iconst 0, 1) := by decide +kernel
theorem dd_MO_readBoil_56 : decode bb_MO_readBoil 56 = .ok (.aload_n 0, 1) := by decide +kernel
theorem dd_MO_readBoil_57 : decode bb_MO_readBoil 57 = .ok (.iconst 0, 1) := by decide +kernel
theorem dd_MO_readBoil_58 : decode bb_MO_readBoil 58 = .ok (.invokevirtual 60, 3) := by decide +kernel
theorem dd_MO_readBoil_61 : decode bb_MO_readBoil 61 = .ok (.iconst 1, 1) := by decide +kernel
theorem dd_MO_readBoil_62 : decode bb_MO_readBoil 62 = .ok (.isub, 1) := by decide +kernel
theorem dd_MO_readBoil_63 : decode bb_MO_readBoil 63 = .ok (.invokevirtual 150, 3) := by decide +kernel
theorem dd_MO_readBoil_66 : decode bb_MO_readBoil 66 = .ok (.ifCond .eq 15, 3) := by decide +kernel
theorem dd_MO_readBoil_69 : decode bb_MO_readBoil 69 = .ok (.aload_n 0, 1) := by decide +kernel
theorem dd_MO_readBoil_70 : decode bb_MO_readBoil 70 = .ok (.getfield 134, 3) := by decide +kernel
theorem dd_MO_readBoil_73 : decode bb_MO_readBoil 73 = .ok (.iload_n 2, 1) := by decide +kernel
theorem dd_MO_readBoil_74 : decode bb_MO_readBoil 74 = .ok (.if_icmp .eq 7, 3) := by decide +kernel
theorem dd_MO_readBoil_77 : decode bb_MO_readBoil 77 = .ok (.iconst 1, 1) := by decide +kernel
theorem dd_MO_readBoil_78 : decode bb_MO_readBoil 78 = .ok (.goto 4, 3) := by decide +kernel
theorem dd_MO_readBoil_81 : decode bb_MO_readBoil 81 = .ok (.iconst 0, 1) := by decide +kernel
theorem dd_MO_readBoil_82 : decode bb_MO_readBoil 82 = .ok (.invokevirtual 154, 3) := by decide +kernel
theorem dd_MO_readBoil_85 : decode bb_MO_readBoil 85 = .ok (.istore_n 3, 1) := by decide +kernel
theorem dd_MO_readBoil_86 : decode bb_MO_readBoil 86 = .ok (.aload_n 0, 1) := by decide +kernel
theorem dd_MO_readBoil_87 : decode bb_MO_readBoil 87 = .ok (.getfield 144, 3) := by decide +kernel
theorem dd_MO_readBoil_90 : decode bb_MO_readBoil 90 = .ok (.iconst (-1), 1) := by decide +kernel
theorem dd_MO_readBoil_91 : decode bb_MO_readBoil 91 = .ok (.if_icmp .ne 10, 3) := by decide +kernel
theorem dd_MO_readBoil_94 : decode bb_MO_readBoil 94 = .ok (.aload_n 0, 1) := by decide +kernel
theorem dd_MO_readBoil_95 : decode bb_MO_readBoil 95 = .ok (.iload_n 1, 1) := by decide +kernel
theorem dd_MO_readBoil_96 : decode bb_MO_readBoil 96 = .ok (.iload_n 2, 1) := by decide +kernel
theorem dd_MO_readBoil_97 : decode bb_MO_readBoil 97 = .ok (.iload_n 3, 1) := by decide +kernel
theorem dd_MO_readBoil_98 : decode bb_MO_readBoil 98 = .ok (.invokevirtual 109, 3) := by decide +kernel
theorem dd_MO_readBoil_101 : decode bb_MO_readBoil 101 = .ok (.return_, 1) := by decide +kernel
def ff_MO_readBoil_86  (x : St) (v0 : Nat) (v1 : Int32) (v2 : Int32) (v3 : Int32) : Option (Unit × St) := (if (gi x v0 12) = (-1) then bnd (ff_MO_boiled x v0 v1 v2 v3) (fun _ x_22 => some ((), x_22)) else some ((), x))
def ff_MO_readBoil_82  (x : St) (v0 : Nat) (v1 : Int32) (v2 : Int32) (w0 : Int32) (w1 : Nat) : Option (Unit × St) := bnd (ff_MO_due x w1 w0) (fun r_32 x_33 => ff_MO_readBoil_86 x_33 v0 v1 v2 r_32)
def ff_MO_readBoil_81  (x : St) (v0 : Nat) (v1 : Int32) (v2 : Int32) (w0 : Nat) : Option (Unit × St) := ff_MO_readBoil_82 x v0 v1 v2 0 w0
def ff_MO_readBoil  (x : St) (v0 : Nat) : Option (Unit × St) := bnd (ff_MO_get x v0 1) (fun r_1 x_2 => bnd (ff_MO_isNumber x_2 v0 0 (r_1 - 1)) (fun r_4 x_5 => bnd (ff_MO_due x_5 v0 r_4) (fun r_7 x_8 => bnd (ff_MO_get x_8 v0 0) (fun r_10 x_11 => bnd (ff_MO_isNumber x_11 v0 0 (r_10 - 1)) (fun r_13 x_14 => bnd (ff_MO_due x_14 v0 r_13) (fun r_16 x_17 => (if (gi x_17 v0 12) = (-1) then (if (gi x_17 v0 10) = 7 then bnd (ff_MO_get x_17 v0 0) (fun r_25 x_26 => bnd (ff_MO_isNumber x_26 v0 0 (r_25 - 1)) (fun r_28 x_29 => (if r_28 = 0 then ff_MO_readBoil_81 x_29 v0 r_7 r_16 v0 else (if (gi x_29 v0 11) = r_16 then ff_MO_readBoil_81 x_29 v0 r_7 r_16 v0 else ff_MO_readBoil_82 x_29 v0 r_7 r_16 1 v0)))) else ff_MO_readBoil_86 x_17 v0 r_7 r_16 (-1)) else ff_MO_readBoil_86 x_17 v0 r_7 r_16 (-1))))))))
set_option maxHeartbeats 4000000 in
set_option maxRecDepth 100000 in
theorem ww_MO_readBoil_86 {p : Program} {l : Launch} {e : Env} {s : State} {m : MethodId} {args : Array Value} {below : List Frame} {meth : Method} {c : Code} {E : Ev} {A : Nat → Prop} {ad : Nat → Nat} {r : Unit} {x' : St} (C0 : Cx E A RMO bb_MO_readBoil 4 (none) p s m args meth c) (hap : Ap ad ixM A)  {x : St} {v0 : Nat} {v1 : Int32} {v2 : Int32} {v3 : Int32} (ho_v0 : isO ixM v0 6) (hf : ff_MO_readBoil_86 x v0 v1 v2 v3 = some (r, x')) {H : Heap} {locs : List Loc} {ls : Array Slot} (hP : Wd E ad ixM x H) (hS : va_S A s.heap H locs) (hl : lv_has ls 4 [(0, .ref (ad v0)), (1, .int v1), (2, .int v2), (3, .int v3)]) : W p l e rm_MO_readBoil s m args below meth c H locs 0 0 (MQ below (QX E ad ixM A (none) x') args s 0 0 A) (F0 m 86 ls []) := by
  obtain ⟨hx, hb, hml, hr, hown, hts, hlk, hK⟩ := id C0
  have hf : (if (gi x v0 12) = (-1) then bnd (ff_MO_boiled x v0 v1 v2 v3) (fun _ x_22 => some ((), x_22)) else some ((), x)) = some (r, x') := hf
  refine lv_aload_n hx hb dd_MO_readBoil_86 rfl (lv_at hl 0 rfl) ?_
  refine gf_MO_144 C0 hP ho_v0 dd_MO_readBoil_87 ?_
  refine lv_iconst (v := -1) hx hb dd_MO_readBoil_90 (by decide) ?_
  refine lv_icmp_ne (tgt := 101) hx hb dd_MO_readBoil_91 (by decide) (fun h_20 => ?_) (fun h_20 => ?_)
  · have hf := (if_neg h_20).symm.trans hf
    exact rrV C0 hP hS dd_MO_readBoil_101 hf
  · have hf := (if_pos h_20).symm.trans hf
    refine lv_aload_n hx hb dd_MO_readBoil_94 rfl (lv_at hl 0 rfl) ?_
    refine lv_iload_n hx hb dd_MO_readBoil_95 rfl (lv_at hl 1 rfl) ?_
    refine lv_iload_n hx hb dd_MO_readBoil_96 rfl (lv_at hl 2 rfl) ?_
    refine lv_iload_n hx hb dd_MO_readBoil_97 rfl (lv_at hl 3 rfl) ?_
    obtain ⟨_, x_22, c_23, hf⟩ := of_bnd hf
    refine cl_MO_109 C0 hap ho_v0 c_23 hP hS ⟨Nat.le_of_ble_eq_true rfl, Nat.le_of_ble_eq_true rfl⟩ hl.1 (Nat.le_of_ble_eq_true rfl) dd_MO_readBoil_98 ⟨Nat.le_refl _, Nat.le_refl _⟩ (fun H locs hP hS => ?_)
    exact rrV C0 hP hS dd_MO_readBoil_101 hf
set_option maxHeartbeats 4000000 in
set_option maxRecDepth 100000 in
theorem ww_MO_readBoil_82 {p : Program} {l : Launch} {e : Env} {s : State} {m : MethodId} {args : Array Value} {below : List Frame} {meth : Method} {c : Code} {E : Ev} {A : Nat → Prop} {ad : Nat → Nat} {r : Unit} {x' : St} (C0 : Cx E A RMO bb_MO_readBoil 4 (none) p s m args meth c) (hap : Ap ad ixM A)  {x : St} {v0 : Nat} {v1 : Int32} {v2 : Int32} {w0 : Int32} {w1 : Nat} (ho_v0 : isO ixM v0 6) (ho_w1 : isO ixM w1 6) (hf : ff_MO_readBoil_82 x v0 v1 v2 w0 w1 = some (r, x')) {H : Heap} {locs : List Loc} {ls : Array Slot} (hP : Wd E ad ixM x H) (hS : va_S A s.heap H locs) (hl : lv_has ls 4 [(0, .ref (ad v0)), (1, .int v1), (2, .int v2)]) : W p l e rm_MO_readBoil s m args below meth c H locs 0 0 (MQ below (QX E ad ixM A (none) x') args s 0 0 A) (F0 m 82 ls [.int w0, .ref (ad w1)]) := by
  obtain ⟨hx, hb, hml, hr, hown, hts, hlk, hK⟩ := id C0
  have hf : bnd (ff_MO_due x w1 w0) (fun r_32 x_33 => ff_MO_readBoil_86 x_33 v0 v1 v2 r_32) = some (r, x') := hf
  obtain ⟨r_32, x_33, c_34, hf⟩ := of_bnd hf
  refine cl_MO_154 C0 hap ho_w1 c_34 hP hS ⟨Nat.le_of_ble_eq_true rfl, Nat.le_of_ble_eq_true rfl⟩ hl.1 (Nat.le_of_ble_eq_true rfl) dd_MO_readBoil_82 ⟨Nat.le_refl _, Nat.le_refl _⟩ (fun H locs hP hS => ?_)
  refine lv_istore_n (lv' := [(3, .int r_32), (0, .ref (ad v0)), (1, .int v1), (2, .int v2)]) hx hb dd_MO_readBoil_85 rfl hl (by decide) rfl (fun ls hl => ?_)
  exact ww_MO_readBoil_86 C0 hap  ho_v0 hf hP hS (lv_sub hl [1, 2, 3, 0] rfl)
set_option maxHeartbeats 4000000 in
set_option maxRecDepth 100000 in
theorem ww_MO_readBoil_81 {p : Program} {l : Launch} {e : Env} {s : State} {m : MethodId} {args : Array Value} {below : List Frame} {meth : Method} {c : Code} {E : Ev} {A : Nat → Prop} {ad : Nat → Nat} {r : Unit} {x' : St} (C0 : Cx E A RMO bb_MO_readBoil 4 (none) p s m args meth c) (hap : Ap ad ixM A)  {x : St} {v0 : Nat} {v1 : Int32} {v2 : Int32} {w0 : Nat} (ho_v0 : isO ixM v0 6) (ho_w0 : isO ixM w0 6) (hf : ff_MO_readBoil_81 x v0 v1 v2 w0 = some (r, x')) {H : Heap} {locs : List Loc} {ls : Array Slot} (hP : Wd E ad ixM x H) (hS : va_S A s.heap H locs) (hl : lv_has ls 4 [(0, .ref (ad v0)), (1, .int v1), (2, .int v2)]) : W p l e rm_MO_readBoil s m args below meth c H locs 0 0 (MQ below (QX E ad ixM A (none) x') args s 0 0 A) (F0 m 81 ls [.ref (ad w0)]) := by
  obtain ⟨hx, hb, hml, hr, hown, hts, hlk, hK⟩ := id C0
  have hf : ff_MO_readBoil_82 x v0 v1 v2 0 w0 = some (r, x') := hf
  refine lv_iconst (v := 0) hx hb dd_MO_readBoil_81 (by decide) ?_
  exact ww_MO_readBoil_82 C0 hap  ho_v0 ho_w0 hf hP hS (lv_sub hl [0, 1, 2] rfl)
set_option maxHeartbeats 4000000 in
set_option maxRecDepth 100000 in
theorem ww_MO_readBoil {p : Program} {l : Launch} {e : Env} {s : State} {m : MethodId} {args : Array Value} {below : List Frame} {meth : Method} {c : Code} {E : Ev} {A : Nat → Prop} {ad : Nat → Nat} {r : Unit} {x' : St} (C0 : Cx E A RMO bb_MO_readBoil 4 (none) p s m args meth c) (hap : Ap ad ixM A)  {x : St} {v0 : Nat} (ho_v0 : isO ixM v0 6) (hf : ff_MO_readBoil x v0 = some (r, x')) {H : Heap} {locs : List Loc} {ls : Array Slot} (hP : Wd E ad ixM x H) (hS : va_S A s.heap H locs) (hl : lv_has ls 4 [(0, .ref (ad v0))]) : W p l e rm_MO_readBoil s m args below meth c H locs 0 0 (MQ below (QX E ad ixM A (none) x') args s 0 0 A) (F0 m 0 ls []) := by
  obtain ⟨hx, hb, hml, hr, hown, hts, hlk, hK⟩ := id C0
  have hf : bnd (ff_MO_get x v0 1) (fun r_1 x_2 => bnd (ff_MO_isNumber x_2 v0 0 (r_1 - 1)) (fun r_4 x_5 => bnd (ff_MO_due x_5 v0 r_4) (fun r_7 x_8 => bnd (ff_MO_get x_8 v0 0) (fun r_10 x_11 => bnd (ff_MO_isNumber x_11 v0 0 (r_10 - 1)) (fun r_13 x_14 => bnd (ff_MO_due x_14 v0 r_13) (fun r_16 x_17 => (if (gi x_17 v0 12) = (-1) then (if (gi x_17 v0 10) = 7 then bnd (ff_MO_get x_17 v0 0) (fun r_25 x_26 => bnd (ff_MO_isNumber x_26 v0 0 (r_25 - 1)) (fun r_28 x_29 => (if r_28 = 0 then ff_MO_readBoil_81 x_29 v0 r_7 r_16 v0 else (if (gi x_29 v0 11) = r_16 then ff_MO_readBoil_81 x_29 v0 r_7 r_16 v0 else ff_MO_readBoil_82 x_29 v0 r_7 r_16 1 v0)))) else ff_MO_readBoil_86 x_17 v0 r_7 r_16 (-1)) else ff_MO_readBoil_86 x_17 v0 r_7 r_16 (-1)))))))) = some (r, x') := hf
  refine lv_aload_n hx hb dd_MO_readBoil_0 rfl (lv_at hl 0 rfl) ?_
  refine lv_aload_n hx hb dd_MO_readBoil_1 rfl (lv_at hl 0 rfl) ?_
  refine lv_iconst (v := 0) hx hb dd_MO_readBoil_2 (by decide) ?_
  refine lv_aload_n hx hb dd_MO_readBoil_3 rfl (lv_at hl 0 rfl) ?_
  refine lv_iconst (v := 1) hx hb dd_MO_readBoil_4 (by decide) ?_
  obtain ⟨r_1, x_2, c_3, hf⟩ := of_bnd hf
  refine cl_MO_60 C0 hap ho_v0 c_3 hP hS ⟨Nat.le_of_ble_eq_true rfl, Nat.le_of_ble_eq_true rfl⟩ hl.1 (Nat.le_of_ble_eq_true rfl) dd_MO_readBoil_5 ⟨Nat.le_refl _, Nat.le_refl _⟩ (fun H locs hP hS => ?_)
  refine lv_iconst (v := 1) hx hb dd_MO_readBoil_8 (by decide) ?_
  refine lv_isub hx hb dd_MO_readBoil_9 ?_
  obtain ⟨r_4, x_5, c_6, hf⟩ := of_bnd hf
  refine cl_MO_150 C0 hap ho_v0 c_6 hP hS ⟨Nat.le_of_ble_eq_true rfl, Nat.le_of_ble_eq_true rfl⟩ hl.1 (Nat.le_of_ble_eq_true rfl) dd_MO_readBoil_10 ⟨Nat.le_refl _, Nat.le_refl _⟩ (fun H locs hP hS => ?_)
  obtain ⟨r_7, x_8, c_9, hf⟩ := of_bnd hf
  refine cl_MO_154 C0 hap ho_v0 c_9 hP hS ⟨Nat.le_of_ble_eq_true rfl, Nat.le_of_ble_eq_true rfl⟩ hl.1 (Nat.le_of_ble_eq_true rfl) dd_MO_readBoil_13 ⟨Nat.le_refl _, Nat.le_refl _⟩ (fun H locs hP hS => ?_)
  refine lv_istore_n (lv' := [(1, .int r_7), (0, .ref (ad v0))]) hx hb dd_MO_readBoil_16 rfl hl (by decide) rfl (fun ls hl => ?_)
  refine lv_aload_n hx hb dd_MO_readBoil_17 rfl (lv_at hl 1 rfl) ?_
  refine lv_aload_n hx hb dd_MO_readBoil_18 rfl (lv_at hl 1 rfl) ?_
  refine lv_iconst (v := 0) hx hb dd_MO_readBoil_19 (by decide) ?_
  refine lv_aload_n hx hb dd_MO_readBoil_20 rfl (lv_at hl 1 rfl) ?_
  refine lv_iconst (v := 0) hx hb dd_MO_readBoil_21 (by decide) ?_
  obtain ⟨r_10, x_11, c_12, hf⟩ := of_bnd hf
  refine cl_MO_60 C0 hap ho_v0 c_12 hP hS ⟨Nat.le_of_ble_eq_true rfl, Nat.le_of_ble_eq_true rfl⟩ hl.1 (Nat.le_of_ble_eq_true rfl) dd_MO_readBoil_22 ⟨Nat.le_refl _, Nat.le_refl _⟩ (fun H locs hP hS => ?_)
  refine lv_iconst (v := 1) hx hb dd_MO_readBoil_25 (by decide) ?_
  refine lv_isub hx hb dd_MO_readBoil_26 ?_
  obtain ⟨r_13, x_14, c_15, hf⟩ := of_bnd hf
  refine cl_MO_150 C0 hap ho_v0 c_15 hP hS ⟨Nat.le_of_ble_eq_true rfl, Nat.le_of_ble_eq_true rfl⟩ hl.1 (Nat.le_of_ble_eq_true rfl) dd_MO_readBoil_27 ⟨Nat.le_refl _, Nat.le_refl _⟩ (fun H locs hP hS => ?_)
  obtain ⟨r_16, x_17, c_18, hf⟩ := of_bnd hf
  refine cl_MO_154 C0 hap ho_v0 c_18 hP hS ⟨Nat.le_of_ble_eq_true rfl, Nat.le_of_ble_eq_true rfl⟩ hl.1 (Nat.le_of_ble_eq_true rfl) dd_MO_readBoil_30 ⟨Nat.le_refl _, Nat.le_refl _⟩ (fun H locs hP hS => ?_)
  refine lv_istore_n (lv' := [(2, .int r_16), (1, .int r_7), (0, .ref (ad v0))]) hx hb dd_MO_readBoil_33 rfl hl (by decide) rfl (fun ls hl => ?_)
  refine lv_iconst (v := -1) hx hb dd_MO_readBoil_34 (by decide) ?_
  refine lv_istore_n (lv' := [(3, .int (-1)), (2, .int r_16), (1, .int r_7), (0, .ref (ad v0))]) hx hb dd_MO_readBoil_35 rfl hl (by decide) rfl (fun ls hl => ?_)
  refine lv_aload_n hx hb dd_MO_readBoil_36 rfl (lv_at hl 3 rfl) ?_
  refine gf_MO_144 C0 hP ho_v0 dd_MO_readBoil_37 ?_
  refine lv_iconst (v := -1) hx hb dd_MO_readBoil_40 (by decide) ?_
  refine lv_icmp_ne (tgt := 86) hx hb dd_MO_readBoil_41 (by decide) (fun h_19 => ?_) (fun h_19 => ?_)
  · have hf := (if_neg h_19).symm.trans hf
    exact ww_MO_readBoil_86 C0 hap  ho_v0 hf hP hS (lv_sub hl [3, 2, 1, 0] rfl)
  · have hf := (if_pos h_19).symm.trans hf
    refine lv_aload_n hx hb dd_MO_readBoil_44 rfl (lv_at hl 3 rfl) ?_
    refine gf_MO_137 C0 hP ho_v0 dd_MO_readBoil_45 ?_
    refine lv_bipush (v := 7) hx hb dd_MO_readBoil_48 (by decide) ?_
    refine lv_icmp_ne (tgt := 86) hx hb dd_MO_readBoil_50 (by decide) (fun h_24 => ?_) (fun h_24 => ?_)
    · have hf := (if_neg h_24).symm.trans hf
      exact ww_MO_readBoil_86 C0 hap  ho_v0 hf hP hS (lv_sub hl [3, 2, 1, 0] rfl)
    · have hf := (if_pos h_24).symm.trans hf
      refine lv_aload_n hx hb dd_MO_readBoil_53 rfl (lv_at hl 3 rfl) ?_
      refine lv_aload_n hx hb dd_MO_readBoil_54 rfl (lv_at hl 3 rfl) ?_
      refine lv_iconst (v := 0) hx hb dd_MO_readBoil_55 (by decide) ?_
      refine lv_aload_n hx hb dd_MO_readBoil_56 rfl (lv_at hl 3 rfl) ?_
      refine lv_iconst (v := 0) hx hb dd_MO_readBoil_57 (by decide) ?_
      obtain ⟨r_25, x_26, c_27, hf⟩ := of_bnd hf
      refine cl_MO_60 C0 hap ho_v0 c_27 hP hS ⟨Nat.le_of_ble_eq_true rfl, Nat.le_of_ble_eq_true rfl⟩ hl.1 (Nat.le_of_ble_eq_true rfl) dd_MO_readBoil_58 ⟨Nat.le_refl _, Nat.le_refl _⟩ (fun H locs hP hS => ?_)
      refine lv_iconst (v := 1) hx hb dd_MO_readBoil_61 (by decide) ?_
      refine lv_isub hx hb dd_MO_readBoil_62 ?_
      obtain ⟨r_28, x_29, c_30, hf⟩ := of_bnd hf
      refine cl_MO_150 C0 hap ho_v0 c_30 hP hS ⟨Nat.le_of_ble_eq_true rfl, Nat.le_of_ble_eq_true rfl⟩ hl.1 (Nat.le_of_ble_eq_true rfl) dd_MO_readBoil_63 ⟨Nat.le_refl _, Nat.le_refl _⟩ (fun H locs hP hS => ?_)
      refine lv_if_eq (tgt := 81) hx hb dd_MO_readBoil_66 (by decide) (fun h_31 => ?_) (fun h_31 => ?_)
      · have hf := (if_pos h_31).symm.trans hf
        exact ww_MO_readBoil_81 C0 hap  ho_v0 ho_v0 hf hP hS (lv_sub hl [3, 2, 1] rfl)
      · have hf := (if_neg h_31).symm.trans hf
        refine lv_aload_n hx hb dd_MO_readBoil_69 rfl (lv_at hl 3 rfl) ?_
        refine gf_MO_134 C0 hP ho_v0 dd_MO_readBoil_70 ?_
        refine lv_iload_n hx hb dd_MO_readBoil_73 rfl (lv_at hl 1 rfl) ?_
        refine lv_icmp_eq (tgt := 81) hx hb dd_MO_readBoil_74 (by decide) (fun h_35 => ?_) (fun h_35 => ?_)
        · have hf := (if_pos h_35).symm.trans hf
          exact ww_MO_readBoil_81 C0 hap  ho_v0 ho_v0 hf hP hS (lv_sub hl [3, 2, 1] rfl)
        · have hf := (if_neg h_35).symm.trans hf
          refine lv_iconst (v := 1) hx hb dd_MO_readBoil_77 (by decide) ?_
          refine lv_goto (tgt := 82) hx hb dd_MO_readBoil_78 (by decide) ?_
          exact ww_MO_readBoil_82 C0 hap  ho_v0 ho_v0 hf hP hS (lv_sub hl [3, 2, 1] rfl)
theorem cc_MO_readBoil {l : Launch} {E : Ev} {A : Nat → Prop} {ad : Nat → Nat} (hap : Ap ad ixM A) {x x' : St} {v0 : Nat} {r : Unit} (ho_v0 : isO ixM v0 6) (hf : ff_MO_readBoil x v0 = some (r, x')) : Met l yy_MO_readBoil (Cond.code yy_MO_readBoil bb_MO_readBoil 4 (none) :: gtb) rm_MO_readBoil (va_Pc [.ref (ad v0)] (PB E A ad ixM x)) (QX E ad ixM A (none) x') 0 0 A := by
  exact enter (by decide) (Nat.le_of_ble_eq_true rfl) (fun p e s m below meth c ls C0 hP hS hl => ww_MO_readBoil C0 hap ho_v0 hf hP hS hl)
abbrev rm_MO_readRow : Room := { frames := 3, cells := 0, slots := 0, locals := 68 }
theorem dd_MO_readRow_0 : decode bb_MO_readRow 0 = .ok (.iload_n 1, 1) := by decide +kernel
theorem dd_MO_readRow_1 : decode bb_MO_readRow 1 = .ok (.ifCond .ne 58, 3) := by decide +kernel
theorem dd_MO_readRow_4 : decode bb_MO_readRow 4 = .ok (.aload_n 0, 1) := by decide +kernel
theorem dd_MO_readRow_5 : decode bb_MO_readRow 5 = .ok (.aload_n 0, 1) := by decide +kernel
theorem dd_MO_readRow_6 : decode bb_MO_readRow 6 = .ok (.iconst 0, 1) := by decide +kernel
theorem dd_MO_readRow_7 : decode bb_MO_readRow 7 = .ok (.iconst 5, 1) := by decide +kernel
theorem dd_MO_readRow_8 : decode bb_MO_readRow 8 = .ok (.invokevirtual 150, 3) := by decide +kernel
theorem dd_MO_readRow_11 : decode bb_MO_readRow 11 = .ok (.invokevirtual 154, 3) := by decide +kernel
theorem dd_MO_readRow_14 : decode bb_MO_readRow 14 = .ok (.istore_n 2, 1) := by decide +kernel
theorem dd_MO_readRow_15 : decode bb_MO_readRow 15 = .ok (.aload_n 0, 1) := by decide +kernel
theorem dd_MO_readRow_16 : decode bb_MO_readRow 16 = .ok (.aload_n 0, 1) := by decide +kernel
theorem dd_MO_readRow_17 : decode bb_MO_readRow 17 = .ok (.iconst 0, 1) := by decide +kernel
theorem dd_MO_readRow_18 : decode bb_MO_readRow 18 = .ok (.bipush 99, 2) := by decide +kernel
theorem dd_MO_readRow_20 : decode bb_MO_readRow 20 = .ok (.invokevirtual 150, 3) := by decide +kernel
theorem dd_MO_readRow_23 : decode bb_MO_readRow 23 = .ok (.invokevirtual 154, 3) := by decide +kernel
theorem dd_MO_readRow_26 : decode bb_MO_readRow 26 = .ok (.istore_n 3, 1) := by decide +kernel
theorem dd_MO_readRow_27 : decode bb_MO_readRow 27 = .ok (.aload_n 0, 1) := by decide +kernel
theorem dd_MO_readRow_28 : decode bb_MO_readRow 28 = .ok (.aload_n 0, 1) := by decide +kernel
theorem dd_MO_readRow_29 : decode bb_MO_readRow 29 = .ok (.iconst 0, 1) := by decide +kernel
theorem dd_MO_readRow_30 : decode bb_MO_readRow 30 = .ok (.bipush 99, 2) := by decide +kernel
theorem dd_MO_readRow_32 : decode bb_MO_readRow 32 = .ok (.invokevirtual 150, 3) := by decide +kernel
theorem dd_MO_readRow_35 : decode bb_MO_readRow 35 = .ok (.invokevirtual 154, 3) := by decide +kernel
theorem dd_MO_readRow_38 : decode bb_MO_readRow 38 = .ok (.istore 4, 2) := by decide +kernel
theorem dd_MO_readRow_40 : decode bb_MO_readRow 40 = .ok (.aload_n 0, 1) := by decide +kernel
theorem dd_MO_readRow_41 : decode bb_MO_readRow 41 = .ok (.getfield 144, 3) := by decide +kernel
theorem dd_MO_readRow_44 : decode bb_MO_readRow 44 = .ok (.iconst (-1), 1) := by decide +kernel
theorem dd_MO_readRow_45 : decode bb_MO_readRow 45 = .ok (.if_icmp .ne 11, 3) := by decide +kernel
theorem dd_MO_readRow_48 : decode bb_MO_readRow 48 = .ok (.aload_n 0, 1) := by decide +kernel
theorem dd_MO_readRow_49 : decode bb_MO_readRow 49 = .ok (.iload_n 2, 1) := by decide +kernel
theorem dd_MO_readRow_50 : decode bb_MO_readRow 50 = .ok (.iload_n 3, 1) := by decide +kernel
theorem dd_MO_readRow_51 : decode bb_MO_readRow 51 = .ok (.iload 4, 2) := by decide +kernel
theorem dd_MO_readRow_53 : decode bb_MO_readRow 53 = .ok (.invokevirtual 79, 3) := by decide +kernel
theorem dd_MO_readRow_56 : decode bb_MO_readRow 56 = .ok (.goto 120, 3) := by decide +kernel
theorem dd_MO_readRow_59 : decode bb_MO_readRow 59 = .ok (.iload_n 1, 1) := by decide +kernel
theorem dd_MO_readRow_60 : decode bb_MO_readRow 60 = .ok (.iconst 2, 1) := by decide +kernel
theorem dd_MO_readRow_61 : decode bb_MO_readRow 61 = .ok (.if_icmp .ne 62, 3) := by decide +kernel
theorem dd_MO_readRow_64 : decode bb_MO_readRow 64 = .ok (.aload_n 0, 1) := by decide +kernel
theorem dd_MO_readRow_65 : decode bb_MO_readRow 65 = .ok (.aload_n 0, 1) := by decide +kernel
theorem dd_MO_readRow_66 : decode bb_MO_readRow 66 = .ok (.getfield 137, 3) := by decide +kernel
theorem dd_MO_readRow_69 : decode bb_MO_readRow 69 = .ok (.bipush 7, 2) := by decide +kernel
theorem dd_MO_readRow_71 : decode bb_MO_readRow 71 = .ok (.if_icmp .ne 18, 3) := by decide +kernel
theorem dd_MO_readRow_74 : decode bb_MO_readRow 74 = .ok (.aload_n 0, 1) := by decide +kernel
theorem dd_MO_readRow_75 : decode bb_MO_readRow 75 = .ok (.aload_n 0, 1) := by decide +kernel
theorem dd_MO_readRow_76 : decode bb_MO_readRow 76 = .ok (.getfield 134, 3) := by decide +kernel
theorem dd_MO_readRow_79 : decode bb_MO_readRow 79 = .ok (.invokevirtual 87, 3) := by decide +kernel
theorem dd_MO_readRow_82 : decode bb_MO_readRow 82 = .ok (.ifCond .eq 7, 3) := by decide +kernel
theorem dd_MO_readRow_85 : decode bb_MO_readRow 85 = .ok (.iconst 1, 1) := by decide +kernel
theorem dd_MO_readRow_86 : decode bb_MO_readRow 86 = .ok (.goto 4, 3) := by decide +kernel
theorem dd_MO_readRow_89 : decode bb_MO_readRow 89 = .ok (.iconst 0, 1) := by decide +kernel
theorem dd_MO_readRow_90 : decode bb_MO_readRow 90 = .ok (.invokevirtual 154, 3) := by decide +kernel
theorem dd_MO_readRow_93 : decode bb_MO_readRow 93 = .ok (.istore_n 2, 1) := by decide +kernel
theorem dd_MO_readRow_94 : decode bb_MO_readRow 94 = .ok (.aload_n 0, 1) := by decide +kernel
theorem dd_MO_readRow_95 : decode bb_MO_readRow 95 = .ok (.aload_n 0, 1) := by decide +kernel
theorem dd_MO_readRow_96 : decode bb_MO_readRow 96 = .ok (.iconst 0, 1) := by decide +kernel
theorem dd_MO_readRow_97 : decode bb_MO_readRow 97 = .ok (.bipush 99, 2) := by decide +kernel
theorem dd_MO_readRow_99 : decode bb_MO_readRow 99 = .ok (.invokevirtual 150, 3) := by decide +kernel
theorem dd_MO_readRow_102 : decode bb_MO_readRow 102 = .ok (.invokevirtual 154, 3) := by decide +kernel
theorem dd_MO_readRow_105 : decode bb_MO_readRow 105 = .ok (.istore_n 3, 1) := by decide +kernel
theorem dd_MO_readRow_106 : decode bb_MO_readRow 106 = .ok (.aload_n 0, 1) := by decide +kernel
theorem dd_MO_readRow_107 : decode bb_MO_readRow 107 = .ok (.getfield 144, 3) := by decide +kernel
theorem dd_MO_readRow_110 : decode bb_MO_readRow 110 = .ok (.iconst (-1), 1) := by decide +kernel
theorem dd_MO_readRow_111 : decode bb_MO_readRow 111 = .ok (.if_icmp .ne 9, 3) := by decide +kernel
theorem dd_MO_readRow_114 : decode bb_MO_readRow 114 = .ok (.aload_n 0, 1) := by decide +kernel
theorem dd_MO_readRow_115 : decode bb_MO_readRow 115 = .ok (.iload_n 2, 1) := by decide +kernel
theorem dd_MO_readRow_116 : decode bb_MO_readRow 116 = .ok (.iload_n 3, 1) := by decide +kernel
theorem dd_MO_readRow_117 : decode bb_MO_readRow 117 = .ok (.invokevirtual 91, 3) := by decide +kernel
theorem dd_MO_readRow_120 : decode bb_MO_readRow 120 = .ok (.goto 56, 3) := by decide +kernel
theorem dd_MO_readRow_123 : decode bb_MO_readRow 123 = .ok (.aload_n 0, 1) := by decide +kernel
theorem dd_MO_readRow_124 : decode bb_MO_readRow 124 = .ok (.aload_n 0, 1) := by decide +kernel
theorem dd_MO_readRow_125 : decode bb_MO_readRow 125 = .ok (.iconst 1, 1) := by decide +kernel
theorem dd_MO_readRow_126 : decode bb_MO_readRow 126 = .ok (.bipush 99, 2) := by decide +kernel
theorem dd_MO_readRow_128 : decode bb_MO_readRow 128 = .ok (.invokevirtual 150, 3) := by decide +kernel
theorem dd_MO_readRow_131 : decode bb_MO_readRow 131 = .ok (.invokevirtual 154, 3) := by decide +kernel
theorem dd_MO_readRow_134 : decode bb_MO_readRow 134 = .ok (.istore_n 2, 1) := by decide +kernel
theorem dd_MO_readRow_135 : decode bb_MO_readRow 135 = .ok (.aload_n 0, 1) := by decide +kernel
theorem dd_MO_readRow_136 : decode bb_MO_readRow 136 = .ok (.aload_n 0, 1) := by decide +kernel
theorem dd_MO_readRow_137 : decode bb_MO_readRow 137 = .ok (.iconst 0, 1) := by decide +kernel
theorem dd_MO_readRow_138 : decode bb_MO_readRow 138 = .ok (.aload_n 0, 1) := by decide +kernel
theorem dd_MO_readRow_139 : decode bb_MO_readRow 139 = .ok (.iconst 0, 1) := by decide +kernel
theorem dd_MO_readRow_140 : decode bb_MO_readRow 140 = .ok (.invokevirtual 60, 3) := by decide +kernel
theorem dd_MO_readRow_143 : decode bb_MO_readRow 143 = .ok (.iconst 1, 1) := by decide +kernel
theorem dd_MO_readRow_144 : decode bb_MO_readRow 144 = .ok (.isub, 1) := by decide +kernel
theorem dd_MO_readRow_145 : decode bb_MO_readRow 145 = .ok (.invokevirtual 150, 3) := by decide +kernel
theorem dd_MO_readRow_148 : decode bb_MO_readRow 148 = .ok (.invokevirtual 154, 3) := by decide +kernel
theorem dd_MO_readRow_151 : decode bb_MO_readRow 151 = .ok (.istore_n 3, 1) := by decide +kernel
theorem dd_MO_readRow_152 : decode bb_MO_readRow 152 = .ok (.aload_n 0, 1) := by decide +kernel
theorem dd_MO_readRow_153 : decode bb_MO_readRow 153 = .ok (.getfield 144, 3) := by decide +kernel
theorem dd_MO_readRow_156 : decode bb_MO_readRow 156 = .ok (.iconst (-1), 1) := by decide +kernel
theorem dd_MO_readRow_157 : decode bb_MO_readRow 157 = .ok (.if_icmp .ne 19, 3) := by decide +kernel
theorem dd_MO_readRow_160 : decode bb_MO_readRow 160 = .ok (.aload_n 0, 1) := by decide +kernel
theorem dd_MO_readRow_161 : decode bb_MO_readRow 161 = .ok (.iload_n 1, 1) := by decide +kernel
theorem dd_MO_readRow_162 : decode bb_MO_readRow 162 = .ok (.iconst 4, 1) := by decide +kernel
theorem dd_MO_readRow_163 : decode bb_MO_readRow 163 = .ok (.if_icmp .ne 7, 3) := by decide +kernel
theorem dd_MO_readRow_166 : decode bb_MO_readRow 166 = .ok (.iconst 1, 1) := by decide +kernel
theorem dd_MO_readRow_167 : decode bb_MO_readRow 167 = .ok (.goto 4, 3) := by decide +kernel
theorem dd_MO_readRow_170 : decode bb_MO_readRow 170 = .ok (.iconst 0, 1) := by decide +kernel
theorem dd_MO_readRow_171 : decode bb_MO_readRow 171 = .ok (.iload_n 2, 1) := by decide +kernel
theorem dd_MO_readRow_172 : decode bb_MO_readRow 172 = .ok (.iload_n 3, 1) := by decide +kernel
theorem dd_MO_readRow_173 : decode bb_MO_readRow 173 = .ok (.invokevirtual 97, 3) := by decide +kernel
theorem dd_MO_readRow_176 : decode bb_MO_readRow 176 = .ok (.return_, 1) := by decide +kernel
def ff_MO_readRow_90  (x : St) (v0 : Nat) (w0 : Int32) (w1 : Nat) : Option (Unit × St) := bnd (ff_MO_due x w1 w0) (fun r_27 x_28 => bnd (ff_MO_isNumber x_28 v0 0 99) (fun r_30 x_31 => bnd (ff_MO_due x_31 v0 r_30) (fun r_33 x_34 => (if (gi x_34 v0 12) = (-1) then bnd (ff_MO_addPiece x_34 v0 r_27 r_33) (fun _ x_38 => some ((), x_38)) else some ((), x_34)))))
def ff_MO_readRow_89  (x : St) (v0 : Nat) (w0 : Nat) : Option (Unit × St) := ff_MO_readRow_90 x v0 0 w0
def ff_MO_readRow  (x : St) (v0 : Nat) (v1 : Int32) : Option (Unit × St) := (if v1 = 0 then bnd (ff_MO_isNumber x v0 0 5) (fun r_44 x_45 => bnd (ff_MO_due x_45 v0 r_44) (fun r_47 x_48 => bnd (ff_MO_isNumber x_48 v0 0 99) (fun r_50 x_51 => bnd (ff_MO_due x_51 v0 r_50) (fun r_53 x_54 => bnd (ff_MO_isNumber x_54 v0 0 99) (fun r_56 x_57 => bnd (ff_MO_due x_57 v0 r_56) (fun r_59 x_60 => (if (gi x_60 v0 12) = (-1) then bnd (ff_MO_addMourner x_60 v0 r_47 r_53 r_59) (fun _ x_64 => some ((), x_64)) else some ((), x_60)))))))) else (if v1 = 2 then (if (gi x v0 10) = 7 then bnd (ff_MO_isSet x v0 (gi x v0 11)) (fun r_40 x_41 => (if r_40 = 0 then ff_MO_readRow_89 x_41 v0 v0 else ff_MO_readRow_90 x_41 v0 1 v0)) else ff_MO_readRow_89 x v0 v0) else bnd (ff_MO_isNumber x v0 1 99) (fun r_3 x_4 => bnd (ff_MO_due x_4 v0 r_3) (fun r_6 x_7 => bnd (ff_MO_get x_7 v0 0) (fun r_9 x_10 => bnd (ff_MO_isNumber x_10 v0 0 (r_9 - 1)) (fun r_12 x_13 => bnd (ff_MO_due x_13 v0 r_12) (fun r_15 x_16 => (if (gi x_16 v0 12) = (-1) then (if v1 = 4 then bnd (ff_MO_addFeast x_16 v0 1 r_6 r_15) (fun _ x_24 => some ((), x_24)) else bnd (ff_MO_addFeast x_16 v0 0 r_6 r_15) (fun _ x_21 => some ((), x_21))) else some ((), x_16)))))))))
set_option maxHeartbeats 4000000 in
set_option maxRecDepth 100000 in
theorem ww_MO_readRow_90 {p : Program} {l : Launch} {e : Env} {s : State} {m : MethodId} {args : Array Value} {below : List Frame} {meth : Method} {c : Code} {E : Ev} {A : Nat → Prop} {ad : Nat → Nat} {r : Unit} {x' : St} (C0 : Cx E A RMO bb_MO_readRow 5 (none) p s m args meth c) (hap : Ap ad ixM A)  {x : St} {v0 : Nat} {w0 : Int32} {w1 : Nat} (ho_v0 : isO ixM v0 6) (ho_w1 : isO ixM w1 6) (hf : ff_MO_readRow_90 x v0 w0 w1 = some (r, x')) {H : Heap} {locs : List Loc} {ls : Array Slot} (hP : Wd E ad ixM x H) (hS : va_S A s.heap H locs) (hl : lv_has ls 5 [(0, .ref (ad v0))]) : W p l e rm_MO_readRow s m args below meth c H locs 0 0 (MQ below (QX E ad ixM A (none) x') args s 0 0 A) (F0 m 90 ls [.int w0, .ref (ad w1)]) := by
  obtain ⟨hx, hb, hml, hr, hown, hts, hlk, hK⟩ := id C0
  have hf : bnd (ff_MO_due x w1 w0) (fun r_27 x_28 => bnd (ff_MO_isNumber x_28 v0 0 99) (fun r_30 x_31 => bnd (ff_MO_due x_31 v0 r_30) (fun r_33 x_34 => (if (gi x_34 v0 12) = (-1) then bnd (ff_MO_addPiece x_34 v0 r_27 r_33) (fun _ x_38 => some ((), x_38)) else some ((), x_34))))) = some (r, x') := hf
  obtain ⟨r_27, x_28, c_29, hf⟩ := of_bnd hf
  refine cl_MO_154 C0 hap ho_w1 c_29 hP hS ⟨Nat.le_of_ble_eq_true rfl, Nat.le_of_ble_eq_true rfl⟩ hl.1 (Nat.le_of_ble_eq_true rfl) dd_MO_readRow_90 ⟨Nat.le_refl _, Nat.le_refl _⟩ (fun H locs hP hS => ?_)
  refine lv_istore_n (lv' := [(2, .int r_27), (0, .ref (ad v0))]) hx hb dd_MO_readRow_93 rfl hl (by decide) rfl (fun ls hl => ?_)
  refine lv_aload_n hx hb dd_MO_readRow_94 rfl (lv_at hl 1 rfl) ?_
  refine lv_aload_n hx hb dd_MO_readRow_95 rfl (lv_at hl 1 rfl) ?_
  refine lv_iconst (v := 0) hx hb dd_MO_readRow_96 (by decide) ?_
  refine lv_bipush (v := 99) hx hb dd_MO_readRow_97 (by decide) ?_
  obtain ⟨r_30, x_31, c_32, hf⟩ := of_bnd hf
  refine cl_MO_150 C0 hap ho_v0 c_32 hP hS ⟨Nat.le_of_ble_eq_true rfl, Nat.le_of_ble_eq_true rfl⟩ hl.1 (Nat.le_of_ble_eq_true rfl) dd_MO_readRow_99 ⟨Nat.le_refl _, Nat.le_refl _⟩ (fun H locs hP hS => ?_)
  obtain ⟨r_33, x_34, c_35, hf⟩ := of_bnd hf
  refine cl_MO_154 C0 hap ho_v0 c_35 hP hS ⟨Nat.le_of_ble_eq_true rfl, Nat.le_of_ble_eq_true rfl⟩ hl.1 (Nat.le_of_ble_eq_true rfl) dd_MO_readRow_102 ⟨Nat.le_refl _, Nat.le_refl _⟩ (fun H locs hP hS => ?_)
  refine lv_istore_n (lv' := [(3, .int r_33), (2, .int r_27), (0, .ref (ad v0))]) hx hb dd_MO_readRow_105 rfl hl (by decide) rfl (fun ls hl => ?_)
  refine lv_aload_n hx hb dd_MO_readRow_106 rfl (lv_at hl 2 rfl) ?_
  refine gf_MO_144 C0 hP ho_v0 dd_MO_readRow_107 ?_
  refine lv_iconst (v := -1) hx hb dd_MO_readRow_110 (by decide) ?_
  refine lv_icmp_ne (tgt := 120) hx hb dd_MO_readRow_111 (by decide) (fun h_36 => ?_) (fun h_36 => ?_)
  · have hf := (if_neg h_36).symm.trans hf
    refine lv_goto (tgt := 176) hx hb dd_MO_readRow_120 (by decide) ?_
    exact rrV C0 hP hS dd_MO_readRow_176 hf
  · have hf := (if_pos h_36).symm.trans hf
    refine lv_aload_n hx hb dd_MO_readRow_114 rfl (lv_at hl 2 rfl) ?_
    refine lv_iload_n hx hb dd_MO_readRow_115 rfl (lv_at hl 1 rfl) ?_
    refine lv_iload_n hx hb dd_MO_readRow_116 rfl (lv_at hl 0 rfl) ?_
    obtain ⟨_, x_38, c_39, hf⟩ := of_bnd hf
    refine cl_MO_91 C0 hap ho_v0 c_39 hP hS ⟨Nat.le_of_ble_eq_true rfl, Nat.le_of_ble_eq_true rfl⟩ hl.1 (Nat.le_of_ble_eq_true rfl) dd_MO_readRow_117 ⟨Nat.le_refl _, Nat.le_refl _⟩ (fun H locs hP hS => ?_)
    refine lv_goto (tgt := 176) hx hb dd_MO_readRow_120 (by decide) ?_
    exact rrV C0 hP hS dd_MO_readRow_176 hf
set_option maxHeartbeats 4000000 in
set_option maxRecDepth 100000 in
theorem ww_MO_readRow_89 {p : Program} {l : Launch} {e : Env} {s : State} {m : MethodId} {args : Array Value} {below : List Frame} {meth : Method} {c : Code} {E : Ev} {A : Nat → Prop} {ad : Nat → Nat} {r : Unit} {x' : St} (C0 : Cx E A RMO bb_MO_readRow 5 (none) p s m args meth c) (hap : Ap ad ixM A)  {x : St} {v0 : Nat} {w0 : Nat} (ho_v0 : isO ixM v0 6) (ho_w0 : isO ixM w0 6) (hf : ff_MO_readRow_89 x v0 w0 = some (r, x')) {H : Heap} {locs : List Loc} {ls : Array Slot} (hP : Wd E ad ixM x H) (hS : va_S A s.heap H locs) (hl : lv_has ls 5 [(0, .ref (ad v0))]) : W p l e rm_MO_readRow s m args below meth c H locs 0 0 (MQ below (QX E ad ixM A (none) x') args s 0 0 A) (F0 m 89 ls [.ref (ad w0)]) := by
  obtain ⟨hx, hb, hml, hr, hown, hts, hlk, hK⟩ := id C0
  have hf : ff_MO_readRow_90 x v0 0 w0 = some (r, x') := hf
  refine lv_iconst (v := 0) hx hb dd_MO_readRow_89 (by decide) ?_
  exact ww_MO_readRow_90 C0 hap  ho_v0 ho_w0 hf hP hS (lv_sub hl [0] rfl)
set_option maxHeartbeats 4000000 in
set_option maxRecDepth 100000 in
theorem ww_MO_readRow {p : Program} {l : Launch} {e : Env} {s : State} {m : MethodId} {args : Array Value} {below : List Frame} {meth : Method} {c : Code} {E : Ev} {A : Nat → Prop} {ad : Nat → Nat} {r : Unit} {x' : St} (C0 : Cx E A RMO bb_MO_readRow 5 (none) p s m args meth c) (hap : Ap ad ixM A)  {x : St} {v0 : Nat} {v1 : Int32} (ho_v0 : isO ixM v0 6) (hf : ff_MO_readRow x v0 v1 = some (r, x')) {H : Heap} {locs : List Loc} {ls : Array Slot} (hP : Wd E ad ixM x H) (hS : va_S A s.heap H locs) (hl : lv_has ls 5 [(0, .ref (ad v0)), (1, .int v1)]) : W p l e rm_MO_readRow s m args below meth c H locs 0 0 (MQ below (QX E ad ixM A (none) x') args s 0 0 A) (F0 m 0 ls []) := by
  obtain ⟨hx, hb, hml, hr, hown, hts, hlk, hK⟩ := id C0
  have hf : (if v1 = 0 then bnd (ff_MO_isNumber x v0 0 5) (fun r_44 x_45 => bnd (ff_MO_due x_45 v0 r_44) (fun r_47 x_48 => bnd (ff_MO_isNumber x_48 v0 0 99) (fun r_50 x_51 => bnd (ff_MO_due x_51 v0 r_50) (fun r_53 x_54 => bnd (ff_MO_isNumber x_54 v0 0 99) (fun r_56 x_57 => bnd (ff_MO_due x_57 v0 r_56) (fun r_59 x_60 => (if (gi x_60 v0 12) = (-1) then bnd (ff_MO_addMourner x_60 v0 r_47 r_53 r_59) (fun _ x_64 => some ((), x_64)) else some ((), x_60)))))))) else (if v1 = 2 then (if (gi x v0 10) = 7 then bnd (ff_MO_isSet x v0 (gi x v0 11)) (fun r_40 x_41 => (if r_40 = 0 then ff_MO_readRow_89 x_41 v0 v0 else ff_MO_readRow_90 x_41 v0 1 v0)) else ff_MO_readRow_89 x v0 v0) else bnd (ff_MO_isNumber x v0 1 99) (fun r_3 x_4 => bnd (ff_MO_due x_4 v0 r_3) (fun r_6 x_7 => bnd (ff_MO_get x_7 v0 0) (fun r_9 x_10 => bnd (ff_MO_isNumber x_10 v0 0 (r_9 - 1)) (fun r_12 x_13 => bnd (ff_MO_due x_13 v0 r_12) (fun r_15 x_16 => (if (gi x_16 v0 12) = (-1) then (if v1 = 4 then bnd (ff_MO_addFeast x_16 v0 1 r_6 r_15) (fun _ x_24 => some ((), x_24)) else bnd (ff_MO_addFeast x_16 v0 0 r_6 r_15) (fun _ x_21 => some ((), x_21))) else some ((), x_16))))))))) = some (r, x') := hf
  refine lv_iload_n hx hb dd_MO_readRow_0 rfl (lv_at hl 1 rfl) ?_
  refine lv_if_ne (tgt := 59) hx hb dd_MO_readRow_1 (by decide) (fun h_1 => ?_) (fun h_1 => ?_)
  · have hf := (if_neg h_1).symm.trans hf
    refine lv_iload_n hx hb dd_MO_readRow_59 rfl (lv_at hl 1 rfl) ?_
    refine lv_iconst (v := 2) hx hb dd_MO_readRow_60 (by decide) ?_
    refine lv_icmp_ne (tgt := 123) hx hb dd_MO_readRow_61 (by decide) (fun h_2 => ?_) (fun h_2 => ?_)
    · have hf := (if_neg h_2).symm.trans hf
      refine lv_aload_n hx hb dd_MO_readRow_123 rfl (lv_at hl 0 rfl) ?_
      refine lv_aload_n hx hb dd_MO_readRow_124 rfl (lv_at hl 0 rfl) ?_
      refine lv_iconst (v := 1) hx hb dd_MO_readRow_125 (by decide) ?_
      refine lv_bipush (v := 99) hx hb dd_MO_readRow_126 (by decide) ?_
      obtain ⟨r_3, x_4, c_5, hf⟩ := of_bnd hf
      refine cl_MO_150 C0 hap ho_v0 c_5 hP hS ⟨Nat.le_of_ble_eq_true rfl, Nat.le_of_ble_eq_true rfl⟩ hl.1 (Nat.le_of_ble_eq_true rfl) dd_MO_readRow_128 ⟨Nat.le_refl _, Nat.le_refl _⟩ (fun H locs hP hS => ?_)
      obtain ⟨r_6, x_7, c_8, hf⟩ := of_bnd hf
      refine cl_MO_154 C0 hap ho_v0 c_8 hP hS ⟨Nat.le_of_ble_eq_true rfl, Nat.le_of_ble_eq_true rfl⟩ hl.1 (Nat.le_of_ble_eq_true rfl) dd_MO_readRow_131 ⟨Nat.le_refl _, Nat.le_refl _⟩ (fun H locs hP hS => ?_)
      refine lv_istore_n (lv' := [(2, .int r_6), (0, .ref (ad v0)), (1, .int v1)]) hx hb dd_MO_readRow_134 rfl hl (by decide) rfl (fun ls hl => ?_)
      refine lv_aload_n hx hb dd_MO_readRow_135 rfl (lv_at hl 1 rfl) ?_
      refine lv_aload_n hx hb dd_MO_readRow_136 rfl (lv_at hl 1 rfl) ?_
      refine lv_iconst (v := 0) hx hb dd_MO_readRow_137 (by decide) ?_
      refine lv_aload_n hx hb dd_MO_readRow_138 rfl (lv_at hl 1 rfl) ?_
      refine lv_iconst (v := 0) hx hb dd_MO_readRow_139 (by decide) ?_
      obtain ⟨r_9, x_10, c_11, hf⟩ := of_bnd hf
      refine cl_MO_60 C0 hap ho_v0 c_11 hP hS ⟨Nat.le_of_ble_eq_true rfl, Nat.le_of_ble_eq_true rfl⟩ hl.1 (Nat.le_of_ble_eq_true rfl) dd_MO_readRow_140 ⟨Nat.le_refl _, Nat.le_refl _⟩ (fun H locs hP hS => ?_)
      refine lv_iconst (v := 1) hx hb dd_MO_readRow_143 (by decide) ?_
      refine lv_isub hx hb dd_MO_readRow_144 ?_
      obtain ⟨r_12, x_13, c_14, hf⟩ := of_bnd hf
      refine cl_MO_150 C0 hap ho_v0 c_14 hP hS ⟨Nat.le_of_ble_eq_true rfl, Nat.le_of_ble_eq_true rfl⟩ hl.1 (Nat.le_of_ble_eq_true rfl) dd_MO_readRow_145 ⟨Nat.le_refl _, Nat.le_refl _⟩ (fun H locs hP hS => ?_)
      obtain ⟨r_15, x_16, c_17, hf⟩ := of_bnd hf
      refine cl_MO_154 C0 hap ho_v0 c_17 hP hS ⟨Nat.le_of_ble_eq_true rfl, Nat.le_of_ble_eq_true rfl⟩ hl.1 (Nat.le_of_ble_eq_true rfl) dd_MO_readRow_148 ⟨Nat.le_refl _, Nat.le_refl _⟩ (fun H locs hP hS => ?_)
      refine lv_istore_n (lv' := [(3, .int r_15), (2, .int r_6), (0, .ref (ad v0)), (1, .int v1)]) hx hb dd_MO_readRow_151 rfl hl (by decide) rfl (fun ls hl => ?_)
      refine lv_aload_n hx hb dd_MO_readRow_152 rfl (lv_at hl 2 rfl) ?_
      refine gf_MO_144 C0 hP ho_v0 dd_MO_readRow_153 ?_
      refine lv_iconst (v := -1) hx hb dd_MO_readRow_156 (by decide) ?_
      refine lv_icmp_ne (tgt := 176) hx hb dd_MO_readRow_157 (by decide) (fun h_18 => ?_) (fun h_18 => ?_)
      · have hf := (if_neg h_18).symm.trans hf
        exact rrV C0 hP hS dd_MO_readRow_176 hf
      · have hf := (if_pos h_18).symm.trans hf
        refine lv_aload_n hx hb dd_MO_readRow_160 rfl (lv_at hl 2 rfl) ?_
        refine lv_iload_n hx hb dd_MO_readRow_161 rfl (lv_at hl 3 rfl) ?_
        refine lv_iconst (v := 4) hx hb dd_MO_readRow_162 (by decide) ?_
        refine lv_icmp_ne (tgt := 170) hx hb dd_MO_readRow_163 (by decide) (fun h_19 => ?_) (fun h_19 => ?_)
        · have hf := (if_neg h_19).symm.trans hf
          refine lv_iconst (v := 0) hx hb dd_MO_readRow_170 (by decide) ?_
          refine lv_iload_n hx hb dd_MO_readRow_171 rfl (lv_at hl 1 rfl) ?_
          refine lv_iload_n hx hb dd_MO_readRow_172 rfl (lv_at hl 0 rfl) ?_
          obtain ⟨_, x_21, c_22, hf⟩ := of_bnd hf
          refine cl_MO_97 C0 hap ho_v0 c_22 hP hS ⟨Nat.le_of_ble_eq_true rfl, Nat.le_of_ble_eq_true rfl⟩ hl.1 (Nat.le_of_ble_eq_true rfl) dd_MO_readRow_173 ⟨Nat.le_refl _, Nat.le_refl _⟩ (fun H locs hP hS => ?_)
          exact rrV C0 hP hS dd_MO_readRow_176 hf
        · have hf := (if_pos h_19).symm.trans hf
          refine lv_iconst (v := 1) hx hb dd_MO_readRow_166 (by decide) ?_
          refine lv_goto (tgt := 171) hx hb dd_MO_readRow_167 (by decide) ?_
          refine lv_iload_n hx hb dd_MO_readRow_171 rfl (lv_at hl 1 rfl) ?_
          refine lv_iload_n hx hb dd_MO_readRow_172 rfl (lv_at hl 0 rfl) ?_
          obtain ⟨_, x_24, c_25, hf⟩ := of_bnd hf
          refine cl_MO_97 C0 hap ho_v0 c_25 hP hS ⟨Nat.le_of_ble_eq_true rfl, Nat.le_of_ble_eq_true rfl⟩ hl.1 (Nat.le_of_ble_eq_true rfl) dd_MO_readRow_173 ⟨Nat.le_refl _, Nat.le_refl _⟩ (fun H locs hP hS => ?_)
          exact rrV C0 hP hS dd_MO_readRow_176 hf
    · have hf := (if_pos h_2).symm.trans hf
      refine lv_aload_n hx hb dd_MO_readRow_64 rfl (lv_at hl 0 rfl) ?_
      refine lv_aload_n hx hb dd_MO_readRow_65 rfl (lv_at hl 0 rfl) ?_
      refine gf_MO_137 C0 hP ho_v0 dd_MO_readRow_66 ?_
      refine lv_bipush (v := 7) hx hb dd_MO_readRow_69 (by decide) ?_
      refine lv_icmp_ne (tgt := 89) hx hb dd_MO_readRow_71 (by decide) (fun h_26 => ?_) (fun h_26 => ?_)
      · have hf := (if_neg h_26).symm.trans hf
        exact ww_MO_readRow_89 C0 hap  ho_v0 ho_v0 hf hP hS (lv_sub hl [0] rfl)
      · have hf := (if_pos h_26).symm.trans hf
        refine lv_aload_n hx hb dd_MO_readRow_74 rfl (lv_at hl 0 rfl) ?_
        refine lv_aload_n hx hb dd_MO_readRow_75 rfl (lv_at hl 0 rfl) ?_
        refine gf_MO_134 C0 hP ho_v0 dd_MO_readRow_76 ?_
        obtain ⟨r_40, x_41, c_42, hf⟩ := of_bnd hf
        refine cl_MO_87 C0 hap ho_v0 c_42 hP hS ⟨Nat.le_of_ble_eq_true rfl, Nat.le_of_ble_eq_true rfl⟩ hl.1 (Nat.le_of_ble_eq_true rfl) dd_MO_readRow_79 ⟨Nat.le_refl _, Nat.le_refl _⟩ (fun H locs hP hS => ?_)
        refine lv_if_eq (tgt := 89) hx hb dd_MO_readRow_82 (by decide) (fun h_43 => ?_) (fun h_43 => ?_)
        · have hf := (if_pos h_43).symm.trans hf
          exact ww_MO_readRow_89 C0 hap  ho_v0 ho_v0 hf hP hS (lv_sub hl [0] rfl)
        · have hf := (if_neg h_43).symm.trans hf
          refine lv_iconst (v := 1) hx hb dd_MO_readRow_85 (by decide) ?_
          refine lv_goto (tgt := 90) hx hb dd_MO_readRow_86 (by decide) ?_
          exact ww_MO_readRow_90 C0 hap  ho_v0 ho_v0 hf hP hS (lv_sub hl [0] rfl)
  · have hf := (if_pos h_1).symm.trans hf
    refine lv_aload_n hx hb dd_MO_readRow_4 rfl (lv_at hl 0 rfl) ?_
    refine lv_aload_n hx hb dd_MO_readRow_5 rfl (lv_at hl 0 rfl) ?_
    refine lv_iconst (v := 0) hx hb dd_MO_readRow_6 (by decide) ?_
    refine lv_iconst (v := 5) hx hb dd_MO_readRow_7 (by decide) ?_
    obtain ⟨r_44, x_45, c_46, hf⟩ := of_bnd hf
    refine cl_MO_150 C0 hap ho_v0 c_46 hP hS ⟨Nat.le_of_ble_eq_true rfl, Nat.le_of_ble_eq_true rfl⟩ hl.1 (Nat.le_of_ble_eq_true rfl) dd_MO_readRow_8 ⟨Nat.le_refl _, Nat.le_refl _⟩ (fun H locs hP hS => ?_)
    obtain ⟨r_47, x_48, c_49, hf⟩ := of_bnd hf
    refine cl_MO_154 C0 hap ho_v0 c_49 hP hS ⟨Nat.le_of_ble_eq_true rfl, Nat.le_of_ble_eq_true rfl⟩ hl.1 (Nat.le_of_ble_eq_true rfl) dd_MO_readRow_11 ⟨Nat.le_refl _, Nat.le_refl _⟩ (fun H locs hP hS => ?_)
    refine lv_istore_n (lv' := [(2, .int r_47), (0, .ref (ad v0)), (1, .int v1)]) hx hb dd_MO_readRow_14 rfl hl (by decide) rfl (fun ls hl => ?_)
    refine lv_aload_n hx hb dd_MO_readRow_15 rfl (lv_at hl 1 rfl) ?_
    refine lv_aload_n hx hb dd_MO_readRow_16 rfl (lv_at hl 1 rfl) ?_
    refine lv_iconst (v := 0) hx hb dd_MO_readRow_17 (by decide) ?_
    refine lv_bipush (v := 99) hx hb dd_MO_readRow_18 (by decide) ?_
    obtain ⟨r_50, x_51, c_52, hf⟩ := of_bnd hf
    refine cl_MO_150 C0 hap ho_v0 c_52 hP hS ⟨Nat.le_of_ble_eq_true rfl, Nat.le_of_ble_eq_true rfl⟩ hl.1 (Nat.le_of_ble_eq_true rfl) dd_MO_readRow_20 ⟨Nat.le_refl _, Nat.le_refl _⟩ (fun H locs hP hS => ?_)
    obtain ⟨r_53, x_54, c_55, hf⟩ := of_bnd hf
    refine cl_MO_154 C0 hap ho_v0 c_55 hP hS ⟨Nat.le_of_ble_eq_true rfl, Nat.le_of_ble_eq_true rfl⟩ hl.1 (Nat.le_of_ble_eq_true rfl) dd_MO_readRow_23 ⟨Nat.le_refl _, Nat.le_refl _⟩ (fun H locs hP hS => ?_)
    refine lv_istore_n (lv' := [(3, .int r_53), (2, .int r_47), (0, .ref (ad v0)), (1, .int v1)]) hx hb dd_MO_readRow_26 rfl hl (by decide) rfl (fun ls hl => ?_)
    refine lv_aload_n hx hb dd_MO_readRow_27 rfl (lv_at hl 2 rfl) ?_
    refine lv_aload_n hx hb dd_MO_readRow_28 rfl (lv_at hl 2 rfl) ?_
    refine lv_iconst (v := 0) hx hb dd_MO_readRow_29 (by decide) ?_
    refine lv_bipush (v := 99) hx hb dd_MO_readRow_30 (by decide) ?_
    obtain ⟨r_56, x_57, c_58, hf⟩ := of_bnd hf
    refine cl_MO_150 C0 hap ho_v0 c_58 hP hS ⟨Nat.le_of_ble_eq_true rfl, Nat.le_of_ble_eq_true rfl⟩ hl.1 (Nat.le_of_ble_eq_true rfl) dd_MO_readRow_32 ⟨Nat.le_refl _, Nat.le_refl _⟩ (fun H locs hP hS => ?_)
    obtain ⟨r_59, x_60, c_61, hf⟩ := of_bnd hf
    refine cl_MO_154 C0 hap ho_v0 c_61 hP hS ⟨Nat.le_of_ble_eq_true rfl, Nat.le_of_ble_eq_true rfl⟩ hl.1 (Nat.le_of_ble_eq_true rfl) dd_MO_readRow_35 ⟨Nat.le_refl _, Nat.le_refl _⟩ (fun H locs hP hS => ?_)
    refine lv_istore (lv' := [(4, .int r_59), (3, .int r_53), (2, .int r_47), (0, .ref (ad v0)), (1, .int v1)]) hx hb dd_MO_readRow_38 hl (by decide) rfl (fun ls hl => ?_)
    refine lv_aload_n hx hb dd_MO_readRow_40 rfl (lv_at hl 3 rfl) ?_
    refine gf_MO_144 C0 hP ho_v0 dd_MO_readRow_41 ?_
    refine lv_iconst (v := -1) hx hb dd_MO_readRow_44 (by decide) ?_
    refine lv_icmp_ne (tgt := 56) hx hb dd_MO_readRow_45 (by decide) (fun h_62 => ?_) (fun h_62 => ?_)
    · have hf := (if_neg h_62).symm.trans hf
      refine lv_goto (tgt := 176) hx hb dd_MO_readRow_56 (by decide) ?_
      exact rrV C0 hP hS dd_MO_readRow_176 hf
    · have hf := (if_pos h_62).symm.trans hf
      refine lv_aload_n hx hb dd_MO_readRow_48 rfl (lv_at hl 3 rfl) ?_
      refine lv_iload_n hx hb dd_MO_readRow_49 rfl (lv_at hl 2 rfl) ?_
      refine lv_iload_n hx hb dd_MO_readRow_50 rfl (lv_at hl 1 rfl) ?_
      refine lv_iload hx hb dd_MO_readRow_51 (lv_at hl 0 rfl) ?_
      obtain ⟨_, x_64, c_65, hf⟩ := of_bnd hf
      refine cl_MO_79 C0 hap ho_v0 c_65 hP hS ⟨Nat.le_of_ble_eq_true rfl, Nat.le_of_ble_eq_true rfl⟩ hl.1 (Nat.le_of_ble_eq_true rfl) dd_MO_readRow_53 ⟨Nat.le_refl _, Nat.le_refl _⟩ (fun H locs hP hS => ?_)
      refine lv_goto (tgt := 176) hx hb dd_MO_readRow_56 (by decide) ?_
      exact rrV C0 hP hS dd_MO_readRow_176 hf
theorem cc_MO_readRow {l : Launch} {E : Ev} {A : Nat → Prop} {ad : Nat → Nat} (hap : Ap ad ixM A) {x x' : St} {v0 : Nat} {v1 : Int32} {r : Unit} (ho_v0 : isO ixM v0 6) (hf : ff_MO_readRow x v0 v1 = some (r, x')) : Met l yy_MO_readRow (Cond.code yy_MO_readRow bb_MO_readRow 5 (none) :: gtb) rm_MO_readRow (va_Pc [.ref (ad v0), .int v1] (PB E A ad ixM x)) (QX E ad ixM A (none) x') 0 0 A := by
  exact enter (by decide) (Nat.le_of_ble_eq_true rfl) (fun p e s m below meth c ls C0 hP hS hl => ww_MO_readRow C0 hap ho_v0 hf hP hS hl)
theorem cl_MO_158 {p : Program} {l : Launch} {e : Env} {R : Room} {s : State} {m : MethodId} {args : Array Value} {below : List Frame} {meth : Method} {c : Code} {H : Heap} {locs : List Loc} {cells slots : Nat} {Q : State → Prop} {cc : ByteArray} {pc : Nat} {ls : Array Slot} {rest : List Value} {E : Ev} {A : Nat → Prop} {ad : Nat → Nat} {nL : Nat} {rt : Option FieldType} (C0 : Cx E A RMO cc nL rt p s m args meth c) (hap : Ap ad ixM A) {x x' : St} {v0 : Nat} {v1 : Int32} {r : Int32} (ho_v0 : isO ixM v0 6) (hc : ff_MO_mayBe x v0 v1 = some (r, x')) (hP : Wd E ad ixM x H) (hS : va_S A s.heap H locs) (hR : rm_MO_mayBe.frames + 1 ≤ R.frames ∧ 8 + (2 + 11) + rm_MO_mayBe.locals ≤ R.locals) (hls : ls.size = nL) (hroom : (rest.map fun v => v.category).sum ≤ 8) (hdg : decode cc pc = .ok (.invokevirtual 158, 3)) (hf : cells ≤ R.cells ∧ slots ≤ R.slots) (kk : ∀ H1 locs1, Wd E ad ixM x' H1 → va_S A s.heap H1 locs1 → W p l e R s m args below meth c H1 locs1 cells slots Q (F0 m (pc + 3) ls (.int r :: rest))) : W p l e R s m args below meth c H locs cells slots Q (F0 m pc ls (.int v1 :: .ref (ad v0) :: rest)) :=
  rcV (n := 1) C0 (cc_MO_mayBe hap ho_v0 hc) hP hS ho_v0 vcl_6 (by decide) gw_code_MO_mayBe gw_m_MO_158 gw_inst_MO_mayBe gw_sel_MO_mayBe gw_ini_MO rfl rfl (by decide +kernel) rfl hR hls rfl hroom hdg hf (fun H1 locs1 a _ _ b => kk H1 locs1 a b)
theorem cl_MO_161 {p : Program} {l : Launch} {e : Env} {R : Room} {s : State} {m : MethodId} {args : Array Value} {below : List Frame} {meth : Method} {c : Code} {H : Heap} {locs : List Loc} {cells slots : Nat} {Q : State → Prop} {cc : ByteArray} {pc : Nat} {ls : Array Slot} {rest : List Value} {E : Ev} {A : Nat → Prop} {ad : Nat → Nat} {nL : Nat} {rt : Option FieldType} (C0 : Cx E A RMO cc nL rt p s m args meth c) (hap : Ap ad ixM A) {x x' : St} {v0 : Nat} {r : Unit} (ho_v0 : isO ixM v0 6) (hc : ff_MO_readBoil x v0 = some (r, x')) (hP : Wd E ad ixM x H) (hS : va_S A s.heap H locs) (hR : rm_MO_readBoil.frames + 1 ≤ R.frames ∧ 8 + (4 + 11) + rm_MO_readBoil.locals ≤ R.locals) (hls : ls.size = nL) (hroom : (rest.map fun v => v.category).sum ≤ 8) (hdg : decode cc pc = .ok (.invokevirtual 161, 3)) (hf : cells ≤ R.cells ∧ slots ≤ R.slots) (kk : ∀ H1 locs1, Wd E ad ixM x' H1 → va_S A s.heap H1 locs1 → W p l e R s m args below meth c H1 locs1 cells slots Q (F0 m (pc + 3) ls (rest))) : W p l e R s m args below meth c H locs cells slots Q (F0 m pc ls (.ref (ad v0) :: rest)) :=
  rcV (n := 0) C0 (cc_MO_readBoil hap ho_v0 hc) hP hS ho_v0 vcl_6 (by decide) gw_code_MO_readBoil gw_m_MO_161 gw_inst_MO_readBoil gw_sel_MO_readBoil gw_ini_MO rfl rfl (by decide +kernel) rfl hR hls rfl hroom hdg hf (fun H1 locs1 a _ _ b => kk H1 locs1 a b)
theorem cl_MO_164 {p : Program} {l : Launch} {e : Env} {R : Room} {s : State} {m : MethodId} {args : Array Value} {below : List Frame} {meth : Method} {c : Code} {H : Heap} {locs : List Loc} {cells slots : Nat} {Q : State → Prop} {cc : ByteArray} {pc : Nat} {ls : Array Slot} {rest : List Value} {E : Ev} {A : Nat → Prop} {ad : Nat → Nat} {nL : Nat} {rt : Option FieldType} (C0 : Cx E A RMO cc nL rt p s m args meth c) (hap : Ap ad ixM A) {x x' : St} {v0 : Nat} {v1 : Int32} {r : Unit} (ho_v0 : isO ixM v0 6) (hc : ff_MO_readRow x v0 v1 = some (r, x')) (hP : Wd E ad ixM x H) (hS : va_S A s.heap H locs) (hR : rm_MO_readRow.frames + 1 ≤ R.frames ∧ 8 + (5 + 11) + rm_MO_readRow.locals ≤ R.locals) (hls : ls.size = nL) (hroom : (rest.map fun v => v.category).sum ≤ 8) (hdg : decode cc pc = .ok (.invokevirtual 164, 3)) (hf : cells ≤ R.cells ∧ slots ≤ R.slots) (kk : ∀ H1 locs1, Wd E ad ixM x' H1 → va_S A s.heap H1 locs1 → W p l e R s m args below meth c H1 locs1 cells slots Q (F0 m (pc + 3) ls (rest))) : W p l e R s m args below meth c H locs cells slots Q (F0 m pc ls (.int v1 :: .ref (ad v0) :: rest)) :=
  rcV (n := 1) C0 (cc_MO_readRow hap ho_v0 hc) hP hS ho_v0 vcl_6 (by decide) gw_code_MO_readRow gw_m_MO_164 gw_inst_MO_readRow gw_sel_MO_readRow gw_ini_MO rfl rfl (by decide +kernel) rfl hR hls rfl hroom hdg hf (fun H1 locs1 a _ _ b => kk H1 locs1 a b)
abbrev rm_MO_readItem : Room := { frames := 4, cells := 0, slots := 0, locals := 92 }
theorem dd_MO_readItem_0 : decode bb_MO_readItem 0 = .ok (.aload_n 0, 1) := by decide +kernel
theorem dd_MO_readItem_1 : decode bb_MO_readItem 1 = .ok (.getfield 137, 3) := by decide +kernel
theorem dd_MO_readItem_4 : decode bb_MO_readItem 4 = .ok (.istore_n 1, 1) := by decide +kernel
theorem dd_MO_readItem_5 : decode bb_MO_readItem 5 = .ok (.aload_n 0, 1) := by decide +kernel
theorem dd_MO_readItem_6 : decode bb_MO_readItem 6 = .ok (.iload_n 1, 1) := by decide +kernel
theorem dd_MO_readItem_7 : decode bb_MO_readItem 7 = .ok (.bipush 6, 2) := by decide +kernel
theorem dd_MO_readItem_9 : decode bb_MO_readItem 9 = .ok (.if_icmp .gt 15, 3) := by decide +kernel
theorem dd_MO_readItem_12 : decode bb_MO_readItem 12 = .ok (.aload_n 0, 1) := by decide +kernel
theorem dd_MO_readItem_13 : decode bb_MO_readItem 13 = .ok (.iload_n 1, 1) := by decide +kernel
theorem dd_MO_readItem_14 : decode bb_MO_readItem 14 = .ok (.invokevirtual 158, 3) := by decide +kernel
theorem dd_MO_readItem_17 : decode bb_MO_readItem 17 = .ok (.ifCond .eq 7, 3) := by decide +kernel
theorem dd_MO_readItem_20 : decode bb_MO_readItem 20 = .ok (.iconst 1, 1) := by decide +kernel
theorem dd_MO_readItem_21 : decode bb_MO_readItem 21 = .ok (.goto 4, 3) := by decide +kernel
theorem dd_MO_readItem_24 : decode bb_MO_readItem 24 = .ok (.iconst 0, 1) := by decide +kernel
theorem dd_MO_readItem_25 : decode bb_MO_readItem 25 = .ok (.invokevirtual 154, 3) := by decide +kernel
theorem dd_MO_readItem_28 : decode bb_MO_readItem 28 = .ok (.pop, 1) := by decide +kernel
theorem dd_MO_readItem_29 : decode bb_MO_readItem 29 = .ok (.aload_n 0, 1) := by decide +kernel
theorem dd_MO_readItem_30 : decode bb_MO_readItem 30 = .ok (.getfield 144, 3) := by decide +kernel
theorem dd_MO_readItem_33 : decode bb_MO_readItem 33 = .ok (.iconst (-1), 1) := by decide +kernel
theorem dd_MO_readItem_34 : decode bb_MO_readItem 34 = .ok (.if_icmp .eq 4, 3) := by decide +kernel
theorem dd_MO_readItem_37 : decode bb_MO_readItem 37 = .ok (.return_, 1) := by decide +kernel
theorem dd_MO_readItem_38 : decode bb_MO_readItem 38 = .ok (.iload_n 1, 1) := by decide +kernel
theorem dd_MO_readItem_39 : decode bb_MO_readItem 39 = .ok (.iconst 1, 1) := by decide +kernel
theorem dd_MO_readItem_40 : decode bb_MO_readItem 40 = .ok (.if_icmp .ne 31, 3) := by decide +kernel
theorem dd_MO_readItem_43 : decode bb_MO_readItem 43 = .ok (.aload_n 0, 1) := by decide +kernel
theorem dd_MO_readItem_44 : decode bb_MO_readItem 44 = .ok (.aload_n 0, 1) := by decide +kernel
theorem dd_MO_readItem_45 : decode bb_MO_readItem 45 = .ok (.iconst 0, 1) := by decide +kernel
theorem dd_MO_readItem_46 : decode bb_MO_readItem 46 = .ok (.bipush 99, 2) := by decide +kernel
theorem dd_MO_readItem_48 : decode bb_MO_readItem 48 = .ok (.invokevirtual 150, 3) := by decide +kernel
theorem dd_MO_readItem_51 : decode bb_MO_readItem 51 = .ok (.invokevirtual 154, 3) := by decide +kernel
theorem dd_MO_readItem_54 : decode bb_MO_readItem 54 = .ok (.istore_n 2, 1) := by decide +kernel
theorem dd_MO_readItem_55 : decode bb_MO_readItem 55 = .ok (.aload_n 0, 1) := by decide +kernel
theorem dd_MO_readItem_56 : decode bb_MO_readItem 56 = .ok (.getfield 144, 3) := by decide +kernel
theorem dd_MO_readItem_59 : decode bb_MO_readItem 59 = .ok (.iconst (-1), 1) := by decide +kernel
theorem dd_MO_readItem_60 : decode bb_MO_readItem 60 = .ok (.if_icmp .ne 8, 3) := by decide +kernel
theorem dd_MO_readItem_63 : decode bb_MO_readItem 63 = .ok (.aload_n 0, 1) := by decide +kernel
theorem dd_MO_readItem_64 : decode bb_MO_readItem 64 = .ok (.iload_n 2, 1) := by decide +kernel
theorem dd_MO_readItem_65 : decode bb_MO_readItem 65 = .ok (.invokevirtual 83, 3) := by decide +kernel
theorem dd_MO_readItem_68 : decode bb_MO_readItem 68 = .ok (.goto 67, 3) := by decide +kernel
theorem dd_MO_readItem_71 : decode bb_MO_readItem 71 = .ok (.iload_n 1, 1) := by decide +kernel
theorem dd_MO_readItem_72 : decode bb_MO_readItem 72 = .ok (.iconst 5, 1) := by decide +kernel
theorem dd_MO_readItem_73 : decode bb_MO_readItem 73 = .ok (.if_icmp .ne 44, 3) := by decide +kernel
theorem dd_MO_readItem_76 : decode bb_MO_readItem 76 = .ok (.aload_n 0, 1) := by decide +kernel
theorem dd_MO_readItem_77 : decode bb_MO_readItem 77 = .ok (.aload_n 0, 1) := by decide +kernel
theorem dd_MO_readItem_78 : decode bb_MO_readItem 78 = .ok (.aload_n 0, 1) := by decide +kernel
theorem dd_MO_readItem_79 : decode bb_MO_readItem 79 = .ok (.iconst 5, 1) := by decide +kernel
theorem dd_MO_readItem_80 : decode bb_MO_readItem 80 = .ok (.invokevirtual 60, 3) := by decide +kernel
theorem dd_MO_readItem_83 : decode bb_MO_readItem 83 = .ok (.bipush 99, 2) := by decide +kernel
theorem dd_MO_readItem_85 : decode bb_MO_readItem 85 = .ok (.invokevirtual 150, 3) := by decide +kernel
theorem dd_MO_readItem_88 : decode bb_MO_readItem 88 = .ok (.invokevirtual 154, 3) := by decide +kernel
theorem dd_MO_readItem_91 : decode bb_MO_readItem 91 = .ok (.istore_n 2, 1) := by decide +kernel
theorem dd_MO_readItem_92 : decode bb_MO_readItem 92 = .ok (.aload_n 0, 1) := by decide +kernel
theorem dd_MO_readItem_93 : decode bb_MO_readItem 93 = .ok (.iconst 5, 1) := by decide +kernel
theorem dd_MO_readItem_94 : decode bb_MO_readItem 94 = .ok (.aload_n 0, 1) := by decide +kernel
theorem dd_MO_readItem_95 : decode bb_MO_readItem 95 = .ok (.getfield 144, 3) := by decide +kernel
theorem dd_MO_readItem_98 : decode bb_MO_readItem 98 = .ok (.iconst (-1), 1) := by decide +kernel
theorem dd_MO_readItem_99 : decode bb_MO_readItem 99 = .ok (.if_icmp .ne 7, 3) := by decide +kernel
theorem dd_MO_readItem_102 : decode bb_MO_readItem 102 = .ok (.iload_n 2, 1) := by decide +kernel
theorem dd_MO_readItem_103 : decode bb_MO_readItem 103 = .ok (.goto 8, 3) := by decide +kernel
theorem dd_MO_readItem_106 : decode bb_MO_readItem 106 = .ok (.aload_n 0, 1) := by decide +kernel
theorem dd_MO_readItem_107 : decode bb_MO_readItem 107 = .ok (.iconst 5, 1) := by decide +kernel
theorem dd_MO_readItem_108 : decode bb_MO_readItem 108 = .ok (.invokevirtual 60, 3) := by decide +kernel
theorem dd_MO_readItem_111 : decode bb_MO_readItem 111 = .ok (.invokevirtual 68, 3) := by decide +kernel
theorem dd_MO_readItem_114 : decode bb_MO_readItem 114 = .ok (.goto 21, 3) := by decide +kernel
theorem dd_MO_readItem_117 : decode bb_MO_readItem 117 = .ok (.iload_n 1, 1) := by decide +kernel
theorem dd_MO_readItem_118 : decode bb_MO_readItem 118 = .ok (.bipush 6, 2) := by decide +kernel
theorem dd_MO_readItem_120 : decode bb_MO_readItem 120 = .ok (.if_icmp .ne 10, 3) := by decide +kernel
theorem dd_MO_readItem_123 : decode bb_MO_readItem 123 = .ok (.aload_n 0, 1) := by decide +kernel
theorem dd_MO_readItem_124 : decode bb_MO_readItem 124 = .ok (.invokevirtual 161, 3) := by decide +kernel
theorem dd_MO_readItem_127 : decode bb_MO_readItem 127 = .ok (.goto 8, 3) := by decide +kernel
theorem dd_MO_readItem_130 : decode bb_MO_readItem 130 = .ok (.aload_n 0, 1) := by decide +kernel
theorem dd_MO_readItem_131 : decode bb_MO_readItem 131 = .ok (.iload_n 1, 1) := by decide +kernel
theorem dd_MO_readItem_132 : decode bb_MO_readItem 132 = .ok (.invokevirtual 164, 3) := by decide +kernel
theorem dd_MO_readItem_135 : decode bb_MO_readItem 135 = .ok (.aload_n 0, 1) := by decide +kernel
theorem dd_MO_readItem_136 : decode bb_MO_readItem 136 = .ok (.aload_n 0, 1) := by decide +kernel
theorem dd_MO_readItem_137 : decode bb_MO_readItem 137 = .ok (.getfield 137, 3) := by decide +kernel
theorem dd_MO_readItem_140 : decode bb_MO_readItem 140 = .ok (.bipush 8, 2) := by decide +kernel
theorem dd_MO_readItem_142 : decode bb_MO_readItem 142 = .ok (.if_icmp .ne 7, 3) := by decide +kernel
theorem dd_MO_readItem_145 : decode bb_MO_readItem 145 = .ok (.iconst 1, 1) := by decide +kernel
theorem dd_MO_readItem_146 : decode bb_MO_readItem 146 = .ok (.goto 4, 3) := by decide +kernel
theorem dd_MO_readItem_149 : decode bb_MO_readItem 149 = .ok (.iconst 0, 1) := by decide +kernel
theorem dd_MO_readItem_150 : decode bb_MO_readItem 150 = .ok (.invokevirtual 154, 3) := by decide +kernel
theorem dd_MO_readItem_153 : decode bb_MO_readItem 153 = .ok (.pop, 1) := by decide +kernel
theorem dd_MO_readItem_154 : decode bb_MO_readItem 154 = .ok (.return_, 1) := by decide +kernel
def ff_MO_readItem_135  (x : St) (v0 : Nat) : Option (Unit × St) := (if (gi x v0 10) = 8 then bnd (ff_MO_due x v0 1) (fun r_16 x_17 => some ((), x_17)) else bnd (ff_MO_due x v0 0) (fun r_13 x_14 => some ((), x_14)))
def ff_MO_readItem_111  (x : St) (v0 : Nat) (w0 : Int32) (w1 : Int32) (w2 : Nat) : Option (Unit × St) := bnd (ff_MO_set x w2 w1 w0) (fun _ x_36 => ff_MO_readItem_135 x_36 v0)
def ff_MO_readItem_68  (x : St) (v0 : Nat) : Option (Unit × St) := ff_MO_readItem_135 x v0
def ff_MO_readItem_25  (x : St) (v0 : Nat) (v1 : Int32) (w0 : Int32) (w1 : Nat) : Option (Unit × St) := bnd (ff_MO_due x w1 w0) (fun r_2 x_3 => (if (gi x_3 v0 12) = (-1) then (if v1 = 1 then bnd (ff_MO_isNumber x_3 v0 0 99) (fun r_38 x_39 => bnd (ff_MO_due x_39 v0 r_38) (fun r_41 x_42 => (if (gi x_42 v0 12) = (-1) then bnd (ff_MO_addJoint x_42 v0 r_41) (fun _ x_46 => ff_MO_readItem_68 x_46 v0) else ff_MO_readItem_68 x_42 v0))) else (if v1 = 5 then bnd (ff_MO_get x_3 v0 5) (fun r_22 x_23 => bnd (ff_MO_isNumber x_23 v0 r_22 99) (fun r_25 x_26 => bnd (ff_MO_due x_26 v0 r_25) (fun r_28 x_29 => (if (gi x_29 v0 12) = (-1) then ff_MO_readItem_111 x_29 v0 r_28 5 v0 else bnd (ff_MO_get x_29 v0 5) (fun r_32 x_33 => ff_MO_readItem_111 x_33 v0 r_32 5 v0))))) else (if v1 = 6 then bnd (ff_MO_readBoil x_3 v0) (fun _ x_20 => ff_MO_readItem_135 x_20 v0) else bnd (ff_MO_readRow x_3 v0 v1) (fun _ x_10 => ff_MO_readItem_135 x_10 v0)))) else some ((), x_3)))
def ff_MO_readItem_24  (x : St) (v0 : Nat) (v1 : Int32) (w0 : Nat) : Option (Unit × St) := ff_MO_readItem_25 x v0 v1 0 w0
def ff_MO_readItem  (x : St) (v0 : Nat) : Option (Unit × St) := (if 6 < (gi x v0 10) then ff_MO_readItem_24 x v0 (gi x v0 10) v0 else bnd (ff_MO_mayBe x v0 (gi x v0 10)) (fun r_48 x_49 => (if r_48 = 0 then ff_MO_readItem_24 x_49 v0 (gi x v0 10) v0 else ff_MO_readItem_25 x_49 v0 (gi x v0 10) 1 v0)))
set_option maxHeartbeats 4000000 in
set_option maxRecDepth 100000 in
theorem ww_MO_readItem_135 {p : Program} {l : Launch} {e : Env} {s : State} {m : MethodId} {args : Array Value} {below : List Frame} {meth : Method} {c : Code} {E : Ev} {A : Nat → Prop} {ad : Nat → Nat} {r : Unit} {x' : St} (C0 : Cx E A RMO bb_MO_readItem 3 (none) p s m args meth c) (hap : Ap ad ixM A)  {x : St} {v0 : Nat} (ho_v0 : isO ixM v0 6) (hf : ff_MO_readItem_135 x v0 = some (r, x')) {H : Heap} {locs : List Loc} {ls : Array Slot} (hP : Wd E ad ixM x H) (hS : va_S A s.heap H locs) (hl : lv_has ls 3 [(0, .ref (ad v0))]) : W p l e rm_MO_readItem s m args below meth c H locs 0 0 (MQ below (QX E ad ixM A (none) x') args s 0 0 A) (F0 m 135 ls []) := by
  obtain ⟨hx, hb, hml, hr, hown, hts, hlk, hK⟩ := id C0
  have hf : (if (gi x v0 10) = 8 then bnd (ff_MO_due x v0 1) (fun r_16 x_17 => some ((), x_17)) else bnd (ff_MO_due x v0 0) (fun r_13 x_14 => some ((), x_14))) = some (r, x') := hf
  refine lv_aload_n hx hb dd_MO_readItem_135 rfl (lv_at hl 0 rfl) ?_
  refine lv_aload_n hx hb dd_MO_readItem_136 rfl (lv_at hl 0 rfl) ?_
  refine gf_MO_137 C0 hP ho_v0 dd_MO_readItem_137 ?_
  refine lv_bipush (v := 8) hx hb dd_MO_readItem_140 (by decide) ?_
  refine lv_icmp_ne (tgt := 149) hx hb dd_MO_readItem_142 (by decide) (fun h_12 => ?_) (fun h_12 => ?_)
  · have hf := (if_neg h_12).symm.trans hf
    refine lv_iconst (v := 0) hx hb dd_MO_readItem_149 (by decide) ?_
    obtain ⟨r_13, x_14, c_15, hf⟩ := of_bnd hf
    refine cl_MO_154 C0 hap ho_v0 c_15 hP hS ⟨Nat.le_of_ble_eq_true rfl, Nat.le_of_ble_eq_true rfl⟩ hl.1 (Nat.le_of_ble_eq_true rfl) dd_MO_readItem_150 ⟨Nat.le_refl _, Nat.le_refl _⟩ (fun H locs hP hS => ?_)
    refine lv_pop hx hb dd_MO_readItem_153 rfl ?_
    exact rrV C0 hP hS dd_MO_readItem_154 hf
  · have hf := (if_pos h_12).symm.trans hf
    refine lv_iconst (v := 1) hx hb dd_MO_readItem_145 (by decide) ?_
    refine lv_goto (tgt := 150) hx hb dd_MO_readItem_146 (by decide) ?_
    obtain ⟨r_16, x_17, c_18, hf⟩ := of_bnd hf
    refine cl_MO_154 C0 hap ho_v0 c_18 hP hS ⟨Nat.le_of_ble_eq_true rfl, Nat.le_of_ble_eq_true rfl⟩ hl.1 (Nat.le_of_ble_eq_true rfl) dd_MO_readItem_150 ⟨Nat.le_refl _, Nat.le_refl _⟩ (fun H locs hP hS => ?_)
    refine lv_pop hx hb dd_MO_readItem_153 rfl ?_
    exact rrV C0 hP hS dd_MO_readItem_154 hf
set_option maxHeartbeats 4000000 in
set_option maxRecDepth 100000 in
theorem ww_MO_readItem_111 {p : Program} {l : Launch} {e : Env} {s : State} {m : MethodId} {args : Array Value} {below : List Frame} {meth : Method} {c : Code} {E : Ev} {A : Nat → Prop} {ad : Nat → Nat} {r : Unit} {x' : St} (C0 : Cx E A RMO bb_MO_readItem 3 (none) p s m args meth c) (hap : Ap ad ixM A)  {x : St} {v0 : Nat} {w0 : Int32} {w1 : Int32} {w2 : Nat} (ho_v0 : isO ixM v0 6) (ho_w2 : isO ixM w2 6) (hf : ff_MO_readItem_111 x v0 w0 w1 w2 = some (r, x')) {H : Heap} {locs : List Loc} {ls : Array Slot} (hP : Wd E ad ixM x H) (hS : va_S A s.heap H locs) (hl : lv_has ls 3 [(0, .ref (ad v0))]) : W p l e rm_MO_readItem s m args below meth c H locs 0 0 (MQ below (QX E ad ixM A (none) x') args s 0 0 A) (F0 m 111 ls [.int w0, .int w1, .ref (ad w2)]) := by
  obtain ⟨hx, hb, hml, hr, hown, hts, hlk, hK⟩ := id C0
  have hf : bnd (ff_MO_set x w2 w1 w0) (fun _ x_36 => ff_MO_readItem_135 x_36 v0) = some (r, x') := hf
  obtain ⟨_, x_36, c_37, hf⟩ := of_bnd hf
  refine cl_MO_68 C0 hap ho_w2 c_37 hP hS ⟨Nat.le_of_ble_eq_true rfl, Nat.le_of_ble_eq_true rfl⟩ hl.1 (Nat.le_of_ble_eq_true rfl) dd_MO_readItem_111 ⟨Nat.le_refl _, Nat.le_refl _⟩ (fun H locs hP hS => ?_)
  refine lv_goto (tgt := 135) hx hb dd_MO_readItem_114 (by decide) ?_
  exact ww_MO_readItem_135 C0 hap  ho_v0 hf hP hS (lv_sub hl [0] rfl)
set_option maxHeartbeats 4000000 in
set_option maxRecDepth 100000 in
theorem ww_MO_readItem_68 {p : Program} {l : Launch} {e : Env} {s : State} {m : MethodId} {args : Array Value} {below : List Frame} {meth : Method} {c : Code} {E : Ev} {A : Nat → Prop} {ad : Nat → Nat} {r : Unit} {x' : St} (C0 : Cx E A RMO bb_MO_readItem 3 (none) p s m args meth c) (hap : Ap ad ixM A)  {x : St} {v0 : Nat} (ho_v0 : isO ixM v0 6) (hf : ff_MO_readItem_68 x v0 = some (r, x')) {H : Heap} {locs : List Loc} {ls : Array Slot} (hP : Wd E ad ixM x H) (hS : va_S A s.heap H locs) (hl : lv_has ls 3 [(0, .ref (ad v0))]) : W p l e rm_MO_readItem s m args below meth c H locs 0 0 (MQ below (QX E ad ixM A (none) x') args s 0 0 A) (F0 m 68 ls []) := by
  obtain ⟨hx, hb, hml, hr, hown, hts, hlk, hK⟩ := id C0
  have hf : ff_MO_readItem_135 x v0 = some (r, x') := hf
  refine lv_goto (tgt := 135) hx hb dd_MO_readItem_68 (by decide) ?_
  exact ww_MO_readItem_135 C0 hap  ho_v0 hf hP hS (lv_sub hl [0] rfl)
set_option maxHeartbeats 4000000 in
set_option maxRecDepth 100000 in
theorem ww_MO_readItem_25 {p : Program} {l : Launch} {e : Env} {s : State} {m : MethodId} {args : Array Value} {below : List Frame} {meth : Method} {c : Code} {E : Ev} {A : Nat → Prop} {ad : Nat → Nat} {r : Unit} {x' : St} (C0 : Cx E A RMO bb_MO_readItem 3 (none) p s m args meth c) (hap : Ap ad ixM A)  {x : St} {v0 : Nat} {v1 : Int32} {w0 : Int32} {w1 : Nat} (ho_v0 : isO ixM v0 6) (ho_w1 : isO ixM w1 6) (hf : ff_MO_readItem_25 x v0 v1 w0 w1 = some (r, x')) {H : Heap} {locs : List Loc} {ls : Array Slot} (hP : Wd E ad ixM x H) (hS : va_S A s.heap H locs) (hl : lv_has ls 3 [(0, .ref (ad v0)), (1, .int v1)]) : W p l e rm_MO_readItem s m args below meth c H locs 0 0 (MQ below (QX E ad ixM A (none) x') args s 0 0 A) (F0 m 25 ls [.int w0, .ref (ad w1)]) := by
  obtain ⟨hx, hb, hml, hr, hown, hts, hlk, hK⟩ := id C0
  have hf : bnd (ff_MO_due x w1 w0) (fun r_2 x_3 => (if (gi x_3 v0 12) = (-1) then (if v1 = 1 then bnd (ff_MO_isNumber x_3 v0 0 99) (fun r_38 x_39 => bnd (ff_MO_due x_39 v0 r_38) (fun r_41 x_42 => (if (gi x_42 v0 12) = (-1) then bnd (ff_MO_addJoint x_42 v0 r_41) (fun _ x_46 => ff_MO_readItem_68 x_46 v0) else ff_MO_readItem_68 x_42 v0))) else (if v1 = 5 then bnd (ff_MO_get x_3 v0 5) (fun r_22 x_23 => bnd (ff_MO_isNumber x_23 v0 r_22 99) (fun r_25 x_26 => bnd (ff_MO_due x_26 v0 r_25) (fun r_28 x_29 => (if (gi x_29 v0 12) = (-1) then ff_MO_readItem_111 x_29 v0 r_28 5 v0 else bnd (ff_MO_get x_29 v0 5) (fun r_32 x_33 => ff_MO_readItem_111 x_33 v0 r_32 5 v0))))) else (if v1 = 6 then bnd (ff_MO_readBoil x_3 v0) (fun _ x_20 => ff_MO_readItem_135 x_20 v0) else bnd (ff_MO_readRow x_3 v0 v1) (fun _ x_10 => ff_MO_readItem_135 x_10 v0)))) else some ((), x_3))) = some (r, x') := hf
  obtain ⟨r_2, x_3, c_4, hf⟩ := of_bnd hf
  refine cl_MO_154 C0 hap ho_w1 c_4 hP hS ⟨Nat.le_of_ble_eq_true rfl, Nat.le_of_ble_eq_true rfl⟩ hl.1 (Nat.le_of_ble_eq_true rfl) dd_MO_readItem_25 ⟨Nat.le_refl _, Nat.le_refl _⟩ (fun H locs hP hS => ?_)
  refine lv_pop hx hb dd_MO_readItem_28 rfl ?_
  refine lv_aload_n hx hb dd_MO_readItem_29 rfl (lv_at hl 0 rfl) ?_
  refine gf_MO_144 C0 hP ho_v0 dd_MO_readItem_30 ?_
  refine lv_iconst (v := -1) hx hb dd_MO_readItem_33 (by decide) ?_
  refine lv_icmp_eq (tgt := 38) hx hb dd_MO_readItem_34 (by decide) (fun h_5 => ?_) (fun h_5 => ?_)
  · have hf := (if_pos h_5).symm.trans hf
    refine lv_iload_n hx hb dd_MO_readItem_38 rfl (lv_at hl 1 rfl) ?_
    refine lv_iconst (v := 1) hx hb dd_MO_readItem_39 (by decide) ?_
    refine lv_icmp_ne (tgt := 71) hx hb dd_MO_readItem_40 (by decide) (fun h_6 => ?_) (fun h_6 => ?_)
    · have hf := (if_neg h_6).symm.trans hf
      refine lv_iload_n hx hb dd_MO_readItem_71 rfl (lv_at hl 1 rfl) ?_
      refine lv_iconst (v := 5) hx hb dd_MO_readItem_72 (by decide) ?_
      refine lv_icmp_ne (tgt := 117) hx hb dd_MO_readItem_73 (by decide) (fun h_7 => ?_) (fun h_7 => ?_)
      · have hf := (if_neg h_7).symm.trans hf
        refine lv_iload_n hx hb dd_MO_readItem_117 rfl (lv_at hl 1 rfl) ?_
        refine lv_bipush (v := 6) hx hb dd_MO_readItem_118 (by decide) ?_
        refine lv_icmp_ne (tgt := 130) hx hb dd_MO_readItem_120 (by decide) (fun h_8 => ?_) (fun h_8 => ?_)
        · have hf := (if_neg h_8).symm.trans hf
          refine lv_aload_n hx hb dd_MO_readItem_130 rfl (lv_at hl 0 rfl) ?_
          refine lv_iload_n hx hb dd_MO_readItem_131 rfl (lv_at hl 1 rfl) ?_
          obtain ⟨_, x_10, c_11, hf⟩ := of_bnd hf
          refine cl_MO_164 C0 hap ho_v0 c_11 hP hS ⟨Nat.le_of_ble_eq_true rfl, Nat.le_of_ble_eq_true rfl⟩ hl.1 (Nat.le_of_ble_eq_true rfl) dd_MO_readItem_132 ⟨Nat.le_refl _, Nat.le_refl _⟩ (fun H locs hP hS => ?_)
          exact ww_MO_readItem_135 C0 hap  ho_v0 hf hP hS (lv_sub hl [0] rfl)
        · have hf := (if_pos h_8).symm.trans hf
          refine lv_aload_n hx hb dd_MO_readItem_123 rfl (lv_at hl 0 rfl) ?_
          obtain ⟨_, x_20, c_21, hf⟩ := of_bnd hf
          refine cl_MO_161 C0 hap ho_v0 c_21 hP hS ⟨Nat.le_of_ble_eq_true rfl, Nat.le_of_ble_eq_true rfl⟩ hl.1 (Nat.le_of_ble_eq_true rfl) dd_MO_readItem_124 ⟨Nat.le_refl _, Nat.le_refl _⟩ (fun H locs hP hS => ?_)
          refine lv_goto (tgt := 135) hx hb dd_MO_readItem_127 (by decide) ?_
          exact ww_MO_readItem_135 C0 hap  ho_v0 hf hP hS (lv_sub hl [0] rfl)
      · have hf := (if_pos h_7).symm.trans hf
        refine lv_aload_n hx hb dd_MO_readItem_76 rfl (lv_at hl 0 rfl) ?_
        refine lv_aload_n hx hb dd_MO_readItem_77 rfl (lv_at hl 0 rfl) ?_
        refine lv_aload_n hx hb dd_MO_readItem_78 rfl (lv_at hl 0 rfl) ?_
        refine lv_iconst (v := 5) hx hb dd_MO_readItem_79 (by decide) ?_
        obtain ⟨r_22, x_23, c_24, hf⟩ := of_bnd hf
        refine cl_MO_60 C0 hap ho_v0 c_24 hP hS ⟨Nat.le_of_ble_eq_true rfl, Nat.le_of_ble_eq_true rfl⟩ hl.1 (Nat.le_of_ble_eq_true rfl) dd_MO_readItem_80 ⟨Nat.le_refl _, Nat.le_refl _⟩ (fun H locs hP hS => ?_)
        refine lv_bipush (v := 99) hx hb dd_MO_readItem_83 (by decide) ?_
        obtain ⟨r_25, x_26, c_27, hf⟩ := of_bnd hf
        refine cl_MO_150 C0 hap ho_v0 c_27 hP hS ⟨Nat.le_of_ble_eq_true rfl, Nat.le_of_ble_eq_true rfl⟩ hl.1 (Nat.le_of_ble_eq_true rfl) dd_MO_readItem_85 ⟨Nat.le_refl _, Nat.le_refl _⟩ (fun H locs hP hS => ?_)
        obtain ⟨r_28, x_29, c_30, hf⟩ := of_bnd hf
        refine cl_MO_154 C0 hap ho_v0 c_30 hP hS ⟨Nat.le_of_ble_eq_true rfl, Nat.le_of_ble_eq_true rfl⟩ hl.1 (Nat.le_of_ble_eq_true rfl) dd_MO_readItem_88 ⟨Nat.le_refl _, Nat.le_refl _⟩ (fun H locs hP hS => ?_)
        refine lv_istore_n (lv' := [(2, .int r_28), (0, .ref (ad v0)), (1, .int v1)]) hx hb dd_MO_readItem_91 rfl hl (by decide) rfl (fun ls hl => ?_)
        refine lv_aload_n hx hb dd_MO_readItem_92 rfl (lv_at hl 1 rfl) ?_
        refine lv_iconst (v := 5) hx hb dd_MO_readItem_93 (by decide) ?_
        refine lv_aload_n hx hb dd_MO_readItem_94 rfl (lv_at hl 1 rfl) ?_
        refine gf_MO_144 C0 hP ho_v0 dd_MO_readItem_95 ?_
        refine lv_iconst (v := -1) hx hb dd_MO_readItem_98 (by decide) ?_
        refine lv_icmp_ne (tgt := 106) hx hb dd_MO_readItem_99 (by decide) (fun h_31 => ?_) (fun h_31 => ?_)
        · have hf := (if_neg h_31).symm.trans hf
          refine lv_aload_n hx hb dd_MO_readItem_106 rfl (lv_at hl 1 rfl) ?_
          refine lv_iconst (v := 5) hx hb dd_MO_readItem_107 (by decide) ?_
          obtain ⟨r_32, x_33, c_34, hf⟩ := of_bnd hf
          refine cl_MO_60 C0 hap ho_v0 c_34 hP hS ⟨Nat.le_of_ble_eq_true rfl, Nat.le_of_ble_eq_true rfl⟩ hl.1 (Nat.le_of_ble_eq_true rfl) dd_MO_readItem_108 ⟨Nat.le_refl _, Nat.le_refl _⟩ (fun H locs hP hS => ?_)
          exact ww_MO_readItem_111 C0 hap  ho_v0 ho_v0 hf hP hS (lv_sub hl [1] rfl)
        · have hf := (if_pos h_31).symm.trans hf
          refine lv_iload_n hx hb dd_MO_readItem_102 rfl (lv_at hl 0 rfl) ?_
          refine lv_goto (tgt := 111) hx hb dd_MO_readItem_103 (by decide) ?_
          exact ww_MO_readItem_111 C0 hap  ho_v0 ho_v0 hf hP hS (lv_sub hl [1] rfl)
    · have hf := (if_pos h_6).symm.trans hf
      refine lv_aload_n hx hb dd_MO_readItem_43 rfl (lv_at hl 0 rfl) ?_
      refine lv_aload_n hx hb dd_MO_readItem_44 rfl (lv_at hl 0 rfl) ?_
      refine lv_iconst (v := 0) hx hb dd_MO_readItem_45 (by decide) ?_
      refine lv_bipush (v := 99) hx hb dd_MO_readItem_46 (by decide) ?_
      obtain ⟨r_38, x_39, c_40, hf⟩ := of_bnd hf
      refine cl_MO_150 C0 hap ho_v0 c_40 hP hS ⟨Nat.le_of_ble_eq_true rfl, Nat.le_of_ble_eq_true rfl⟩ hl.1 (Nat.le_of_ble_eq_true rfl) dd_MO_readItem_48 ⟨Nat.le_refl _, Nat.le_refl _⟩ (fun H locs hP hS => ?_)
      obtain ⟨r_41, x_42, c_43, hf⟩ := of_bnd hf
      refine cl_MO_154 C0 hap ho_v0 c_43 hP hS ⟨Nat.le_of_ble_eq_true rfl, Nat.le_of_ble_eq_true rfl⟩ hl.1 (Nat.le_of_ble_eq_true rfl) dd_MO_readItem_51 ⟨Nat.le_refl _, Nat.le_refl _⟩ (fun H locs hP hS => ?_)
      refine lv_istore_n (lv' := [(2, .int r_41), (0, .ref (ad v0)), (1, .int v1)]) hx hb dd_MO_readItem_54 rfl hl (by decide) rfl (fun ls hl => ?_)
      refine lv_aload_n hx hb dd_MO_readItem_55 rfl (lv_at hl 1 rfl) ?_
      refine gf_MO_144 C0 hP ho_v0 dd_MO_readItem_56 ?_
      refine lv_iconst (v := -1) hx hb dd_MO_readItem_59 (by decide) ?_
      refine lv_icmp_ne (tgt := 68) hx hb dd_MO_readItem_60 (by decide) (fun h_44 => ?_) (fun h_44 => ?_)
      · have hf := (if_neg h_44).symm.trans hf
        exact ww_MO_readItem_68 C0 hap  ho_v0 hf hP hS (lv_sub hl [1] rfl)
      · have hf := (if_pos h_44).symm.trans hf
        refine lv_aload_n hx hb dd_MO_readItem_63 rfl (lv_at hl 1 rfl) ?_
        refine lv_iload_n hx hb dd_MO_readItem_64 rfl (lv_at hl 0 rfl) ?_
        obtain ⟨_, x_46, c_47, hf⟩ := of_bnd hf
        refine cl_MO_83 C0 hap ho_v0 c_47 hP hS ⟨Nat.le_of_ble_eq_true rfl, Nat.le_of_ble_eq_true rfl⟩ hl.1 (Nat.le_of_ble_eq_true rfl) dd_MO_readItem_65 ⟨Nat.le_refl _, Nat.le_refl _⟩ (fun H locs hP hS => ?_)
        exact ww_MO_readItem_68 C0 hap  ho_v0 hf hP hS (lv_sub hl [1] rfl)
  · have hf := (if_neg h_5).symm.trans hf
    exact rrV C0 hP hS dd_MO_readItem_37 hf
set_option maxHeartbeats 4000000 in
set_option maxRecDepth 100000 in
theorem ww_MO_readItem_24 {p : Program} {l : Launch} {e : Env} {s : State} {m : MethodId} {args : Array Value} {below : List Frame} {meth : Method} {c : Code} {E : Ev} {A : Nat → Prop} {ad : Nat → Nat} {r : Unit} {x' : St} (C0 : Cx E A RMO bb_MO_readItem 3 (none) p s m args meth c) (hap : Ap ad ixM A)  {x : St} {v0 : Nat} {v1 : Int32} {w0 : Nat} (ho_v0 : isO ixM v0 6) (ho_w0 : isO ixM w0 6) (hf : ff_MO_readItem_24 x v0 v1 w0 = some (r, x')) {H : Heap} {locs : List Loc} {ls : Array Slot} (hP : Wd E ad ixM x H) (hS : va_S A s.heap H locs) (hl : lv_has ls 3 [(0, .ref (ad v0)), (1, .int v1)]) : W p l e rm_MO_readItem s m args below meth c H locs 0 0 (MQ below (QX E ad ixM A (none) x') args s 0 0 A) (F0 m 24 ls [.ref (ad w0)]) := by
  obtain ⟨hx, hb, hml, hr, hown, hts, hlk, hK⟩ := id C0
  have hf : ff_MO_readItem_25 x v0 v1 0 w0 = some (r, x') := hf
  refine lv_iconst (v := 0) hx hb dd_MO_readItem_24 (by decide) ?_
  exact ww_MO_readItem_25 C0 hap  ho_v0 ho_w0 hf hP hS (lv_sub hl [0, 1] rfl)
set_option maxHeartbeats 4000000 in
set_option maxRecDepth 100000 in
theorem ww_MO_readItem {p : Program} {l : Launch} {e : Env} {s : State} {m : MethodId} {args : Array Value} {below : List Frame} {meth : Method} {c : Code} {E : Ev} {A : Nat → Prop} {ad : Nat → Nat} {r : Unit} {x' : St} (C0 : Cx E A RMO bb_MO_readItem 3 (none) p s m args meth c) (hap : Ap ad ixM A)  {x : St} {v0 : Nat} (ho_v0 : isO ixM v0 6) (hf : ff_MO_readItem x v0 = some (r, x')) {H : Heap} {locs : List Loc} {ls : Array Slot} (hP : Wd E ad ixM x H) (hS : va_S A s.heap H locs) (hl : lv_has ls 3 [(0, .ref (ad v0))]) : W p l e rm_MO_readItem s m args below meth c H locs 0 0 (MQ below (QX E ad ixM A (none) x') args s 0 0 A) (F0 m 0 ls []) := by
  obtain ⟨hx, hb, hml, hr, hown, hts, hlk, hK⟩ := id C0
  have hf : (if 6 < (gi x v0 10) then ff_MO_readItem_24 x v0 (gi x v0 10) v0 else bnd (ff_MO_mayBe x v0 (gi x v0 10)) (fun r_48 x_49 => (if r_48 = 0 then ff_MO_readItem_24 x_49 v0 (gi x v0 10) v0 else ff_MO_readItem_25 x_49 v0 (gi x v0 10) 1 v0))) = some (r, x') := hf
  refine lv_aload_n hx hb dd_MO_readItem_0 rfl (lv_at hl 0 rfl) ?_
  refine gf_MO_137 C0 hP ho_v0 dd_MO_readItem_1 ?_
  refine lv_istore_n (lv' := [(1, .int (gi x v0 10)), (0, .ref (ad v0))]) hx hb dd_MO_readItem_4 rfl hl (by decide) rfl (fun ls hl => ?_)
  refine lv_aload_n hx hb dd_MO_readItem_5 rfl (lv_at hl 1 rfl) ?_
  refine lv_iload_n hx hb dd_MO_readItem_6 rfl (lv_at hl 0 rfl) ?_
  refine lv_bipush (v := 6) hx hb dd_MO_readItem_7 (by decide) ?_
  refine lv_icmp_gt (tgt := 24) hx hb dd_MO_readItem_9 (by decide) (fun h_1 => ?_) (fun h_1 => ?_)
  · have hf := (if_pos h_1).symm.trans hf
    exact ww_MO_readItem_24 C0 hap  ho_v0 ho_v0 hf hP hS (lv_sub hl [1, 0] rfl)
  · have hf := (if_neg h_1).symm.trans hf
    refine lv_aload_n hx hb dd_MO_readItem_12 rfl (lv_at hl 1 rfl) ?_
    refine lv_iload_n hx hb dd_MO_readItem_13 rfl (lv_at hl 0 rfl) ?_
    obtain ⟨r_48, x_49, c_50, hf⟩ := of_bnd hf
    refine cl_MO_158 C0 hap ho_v0 c_50 hP hS ⟨Nat.le_of_ble_eq_true rfl, Nat.le_of_ble_eq_true rfl⟩ hl.1 (Nat.le_of_ble_eq_true rfl) dd_MO_readItem_14 ⟨Nat.le_refl _, Nat.le_refl _⟩ (fun H locs hP hS => ?_)
    refine lv_if_eq (tgt := 24) hx hb dd_MO_readItem_17 (by decide) (fun h_51 => ?_) (fun h_51 => ?_)
    · have hf := (if_pos h_51).symm.trans hf
      exact ww_MO_readItem_24 C0 hap  ho_v0 ho_v0 hf hP hS (lv_sub hl [1, 0] rfl)
    · have hf := (if_neg h_51).symm.trans hf
      refine lv_iconst (v := 1) hx hb dd_MO_readItem_20 (by decide) ?_
      refine lv_goto (tgt := 25) hx hb dd_MO_readItem_21 (by decide) ?_
      exact ww_MO_readItem_25 C0 hap  ho_v0 ho_v0 hf hP hS (lv_sub hl [1, 0] rfl)
theorem cc_MO_readItem {l : Launch} {E : Ev} {A : Nat → Prop} {ad : Nat → Nat} (hap : Ap ad ixM A) {x x' : St} {v0 : Nat} {r : Unit} (ho_v0 : isO ixM v0 6) (hf : ff_MO_readItem x v0 = some (r, x')) : Met l yy_MO_readItem (Cond.code yy_MO_readItem bb_MO_readItem 3 (none) :: gtb) rm_MO_readItem (va_Pc [.ref (ad v0)] (PB E A ad ixM x)) (QX E ad ixM A (none) x') 0 0 A := by
  exact enter (by decide) (Nat.le_of_ble_eq_true rfl) (fun p e s m below meth c ls C0 hP hS hl => ww_MO_readItem C0 hap ho_v0 hf hP hS hl)
theorem cl_MO_167 {p : Program} {l : Launch} {e : Env} {R : Room} {s : State} {m : MethodId} {args : Array Value} {below : List Frame} {meth : Method} {c : Code} {H : Heap} {locs : List Loc} {cells slots : Nat} {Q : State → Prop} {cc : ByteArray} {pc : Nat} {ls : Array Slot} {rest : List Value} {E : Ev} {A : Nat → Prop} {ad : Nat → Nat} {nL : Nat} {rt : Option FieldType} (C0 : Cx E A RMO cc nL rt p s m args meth c) (hap : Ap ad ixM A) {x x' : St} {v0 : Nat} {r : Unit} (ho_v0 : isO ixM v0 6) (hc : ff_MO_readItem x v0 = some (r, x')) (hP : Wd E ad ixM x H) (hS : va_S A s.heap H locs) (hR : rm_MO_readItem.frames + 1 ≤ R.frames ∧ 8 + (3 + 11) + rm_MO_readItem.locals ≤ R.locals) (hls : ls.size = nL) (hroom : (rest.map fun v => v.category).sum ≤ 8) (hdg : decode cc pc = .ok (.invokevirtual 167, 3)) (hf : cells ≤ R.cells ∧ slots ≤ R.slots) (kk : ∀ H1 locs1, Wd E ad ixM x' H1 → va_S A s.heap H1 locs1 → W p l e R s m args below meth c H1 locs1 cells slots Q (F0 m (pc + 3) ls (rest))) : W p l e R s m args below meth c H locs cells slots Q (F0 m pc ls (.ref (ad v0) :: rest)) :=
  rcV (n := 0) C0 (cc_MO_readItem hap ho_v0 hc) hP hS ho_v0 vcl_6 (by decide) gw_code_MO_readItem gw_m_MO_167 gw_inst_MO_readItem gw_sel_MO_readItem gw_ini_MO rfl rfl (by decide +kernel) rfl hR hls rfl hroom hdg hf (fun H1 locs1 a _ _ b => kk H1 locs1 a b)
theorem cl_MO_170 {p : Program} {l : Launch} {e : Env} {R : Room} {s : State} {m : MethodId} {args : Array Value} {below : List Frame} {meth : Method} {c : Code} {H : Heap} {locs : List Loc} {cells slots : Nat} {Q : State → Prop} {cc : ByteArray} {pc : Nat} {ls : Array Slot} {rest : List Value} {E : Ev} {A : Nat → Prop} {ad : Nat → Nat} {nL : Nat} {rt : Option FieldType} (C0 : Cx E A RMO cc nL rt p s m args meth c) (hap : Ap ad ixM A) {x x' : St} {v0 : Nat} {v1 : Int32} {v2 : Int32} {r : Unit} (ho_v0 : isO ixM v0 6) (hc : ff_MO_copy x v0 v1 v2 = some (r, x')) (hP : Wd E ad ixM x H) (hS : va_S A s.heap H locs) (hR : rm_MO_copy.frames + 1 ≤ R.frames ∧ 8 + (4 + 11) + rm_MO_copy.locals ≤ R.locals) (hls : ls.size = nL) (hroom : (rest.map fun v => v.category).sum ≤ 8) (hdg : decode cc pc = .ok (.invokevirtual 170, 3)) (hf : cells ≤ R.cells ∧ slots ≤ R.slots) (kk : ∀ H1 locs1, Wd E ad ixM x' H1 → va_S A s.heap H1 locs1 → W p l e R s m args below meth c H1 locs1 cells slots Q (F0 m (pc + 3) ls (rest))) : W p l e R s m args below meth c H locs cells slots Q (F0 m pc ls (.int v2 :: .int v1 :: .ref (ad v0) :: rest)) :=
  rcV (n := 2) C0 (cc_MO_copy hap ho_v0 hc) hP hS ho_v0 vcl_6 (by decide) gw_code_MO_copy gw_m_MO_170 gw_inst_MO_copy gw_sel_MO_copy gw_ini_MO rfl rfl (by decide +kernel) rfl hR hls rfl hroom hdg hf (fun H1 locs1 a _ _ b => kk H1 locs1 a b)
abbrev rm_MO_read : Room := { frames := 5, cells := 0, slots := 0, locals := 114 }
theorem dd_MO_read_0 : decode bb_MO_read 0 = .ok (.aload_n 0, 1) := by decide +kernel
theorem dd_MO_read_1 : decode bb_MO_read 1 = .ok (.sipush 945, 3) := by decide +kernel
theorem dd_MO_read_4 : decode bb_MO_read 4 = .ok (.putfield 57, 3) := by decide +kernel
theorem dd_MO_read_7 : decode bb_MO_read 7 = .ok (.iconst 0, 1) := by decide +kernel
theorem dd_MO_read_8 : decode bb_MO_read 8 = .ok (.istore_n 1, 1) := by decide +kernel
theorem dd_MO_read_9 : decode bb_MO_read 9 = .ok (.iload_n 1, 1) := by decide +kernel
theorem dd_MO_read_10 : decode bb_MO_read 10 = .ok (.bipush 7, 2) := by decide +kernel
theorem dd_MO_read_12 : decode bb_MO_read 12 = .ok (.if_icmp .ge 15, 3) := by decide +kernel
theorem dd_MO_read_15 : decode bb_MO_read 15 = .ok (.aload_n 0, 1) := by decide +kernel
theorem dd_MO_read_16 : decode bb_MO_read 16 = .ok (.iload_n 1, 1) := by decide +kernel
theorem dd_MO_read_17 : decode bb_MO_read 17 = .ok (.iconst 0, 1) := by decide +kernel
theorem dd_MO_read_18 : decode bb_MO_read 18 = .ok (.invokevirtual 68, 3) := by decide +kernel
theorem dd_MO_read_21 : decode bb_MO_read 21 = .ok (.iinc 1 1, 3) := by decide +kernel
theorem dd_MO_read_24 : decode bb_MO_read 24 = .ok (.goto (-15), 3) := by decide +kernel
theorem dd_MO_read_27 : decode bb_MO_read 27 = .ok (.aload_n 0, 1) := by decide +kernel
theorem dd_MO_read_28 : decode bb_MO_read 28 = .ok (.iconst 0, 1) := by decide +kernel
theorem dd_MO_read_29 : decode bb_MO_read 29 = .ok (.putfield 123, 3) := by decide +kernel
theorem dd_MO_read_32 : decode bb_MO_read 32 = .ok (.aload_n 0, 1) := by decide +kernel
theorem dd_MO_read_33 : decode bb_MO_read 33 = .ok (.iconst (-1), 1) := by decide +kernel
theorem dd_MO_read_34 : decode bb_MO_read 34 = .ok (.putfield 144, 3) := by decide +kernel
theorem dd_MO_read_37 : decode bb_MO_read 37 = .ok (.iconst 0, 1) := by decide +kernel
theorem dd_MO_read_38 : decode bb_MO_read 38 = .ok (.istore_n 1, 1) := by decide +kernel
theorem dd_MO_read_39 : decode bb_MO_read 39 = .ok (.aload_n 0, 1) := by decide +kernel
theorem dd_MO_read_40 : decode bb_MO_read 40 = .ok (.invokevirtual 147, 3) := by decide +kernel
theorem dd_MO_read_43 : decode bb_MO_read 43 = .ok (.aload_n 0, 1) := by decide +kernel
theorem dd_MO_read_44 : decode bb_MO_read 44 = .ok (.getfield 144, 3) := by decide +kernel
theorem dd_MO_read_47 : decode bb_MO_read 47 = .ok (.iconst (-1), 1) := by decide +kernel
theorem dd_MO_read_48 : decode bb_MO_read 48 = .ok (.if_icmp .ne 22, 3) := by decide +kernel
theorem dd_MO_read_51 : decode bb_MO_read 51 = .ok (.aload_n 0, 1) := by decide +kernel
theorem dd_MO_read_52 : decode bb_MO_read 52 = .ok (.getfield 137, 3) := by decide +kernel
theorem dd_MO_read_55 : decode bb_MO_read 55 = .ok (.bipush 9, 2) := by decide +kernel
theorem dd_MO_read_57 : decode bb_MO_read 57 = .ok (.if_icmp .eq 13, 3) := by decide +kernel
theorem dd_MO_read_60 : decode bb_MO_read 60 = .ok (.aload_n 0, 1) := by decide +kernel
theorem dd_MO_read_61 : decode bb_MO_read 61 = .ok (.invokevirtual 167, 3) := by decide +kernel
theorem dd_MO_read_64 : decode bb_MO_read 64 = .ok (.iinc 1 1, 3) := by decide +kernel
theorem dd_MO_read_67 : decode bb_MO_read 67 = .ok (.goto (-24), 3) := by decide +kernel
theorem dd_MO_read_70 : decode bb_MO_read 70 = .ok (.aload_n 0, 1) := by decide +kernel
theorem dd_MO_read_71 : decode bb_MO_read 71 = .ok (.iconst 0, 1) := by decide +kernel
theorem dd_MO_read_72 : decode bb_MO_read 72 = .ok (.putfield 57, 3) := by decide +kernel
theorem dd_MO_read_75 : decode bb_MO_read 75 = .ok (.aload_n 0, 1) := by decide +kernel
theorem dd_MO_read_76 : decode bb_MO_read 76 = .ok (.getfield 144, 3) := by decide +kernel
theorem dd_MO_read_79 : decode bb_MO_read 79 = .ok (.iconst (-1), 1) := by decide +kernel
theorem dd_MO_read_80 : decode bb_MO_read 80 = .ok (.if_icmp .eq 11, 3) := by decide +kernel
theorem dd_MO_read_83 : decode bb_MO_read 83 = .ok (.bipush (-10), 2) := by decide +kernel
theorem dd_MO_read_85 : decode bb_MO_read 85 = .ok (.aload_n 0, 1) := by decide +kernel
theorem dd_MO_read_86 : decode bb_MO_read 86 = .ok (.getfield 144, 3) := by decide +kernel
theorem dd_MO_read_89 : decode bb_MO_read 89 = .ok (.isub, 1) := by decide +kernel
theorem dd_MO_read_90 : decode bb_MO_read 90 = .ok (.ireturn, 1) := by decide +kernel
theorem dd_MO_read_91 : decode bb_MO_read 91 = .ok (.aload_n 0, 1) := by decide +kernel
theorem dd_MO_read_92 : decode bb_MO_read 92 = .ok (.sipush 945, 3) := by decide +kernel
theorem dd_MO_read_95 : decode bb_MO_read 95 = .ok (.iconst 0, 1) := by decide +kernel
theorem dd_MO_read_96 : decode bb_MO_read 96 = .ok (.invokevirtual 170, 3) := by decide +kernel
theorem dd_MO_read_99 : decode bb_MO_read 99 = .ok (.iload_n 1, 1) := by decide +kernel
theorem dd_MO_read_100 : decode bb_MO_read 100 = .ok (.ireturn, 1) := by decide +kernel
def ff_MO_read_70  (x : St) (v0 : Nat) (v1 : Int32) : Option (Int32 × St) := st (si x v0 1 0) (fun x_9 => (if (gi x_9 v0 12) = (-1) then bnd (ff_MO_copy x_9 v0 945 0) (fun _ x_12 => some (v1, x_12)) else some ((-10) - (gi x_9 v0 12), x_9)))
def ff_MO_read_43  : Nat → St → Nat → Int32 → Option (Int32 × St)
  | 0, _, _, _ => none
  | n + 1, x, v0, v1 => (if (gi x v0 12) = (-1) then (if (gi x v0 10) = 9 then ff_MO_read_70 x v0 v1 else bnd (ff_MO_readItem x v0) (fun _ x_16 => ff_MO_read_43 n x_16 v0 (v1 + 1))) else ff_MO_read_70 x v0 v1)
def ff_MO_read_27  (x : St) (v0 : Nat) : Option (Int32 × St) := st (si x v0 8 0) (fun x_3 => st (si x_3 v0 12 (-1)) (fun x_4 => bnd (ff_MO_next x_4 v0) (fun _ x_6 => ff_MO_read_43 FU x_6 v0 0)))
def ff_MO_read_9  : Nat → St → Nat → Int32 → Option (Int32 × St)
  | 0, _, _, _ => none
  | n + 1, x, v0, v1 => (if 7 ≤ v1 then ff_MO_read_27 x v0 else bnd (ff_MO_set x v0 v1 0) (fun _ x_19 => ff_MO_read_9 n x_19 v0 (v1 + 1)))
def ff_MO_read  (x : St) (v0 : Nat) : Option (Int32 × St) := st (si x v0 1 945) (fun x_1 => ff_MO_read_9 FU x_1 v0 0)
set_option maxHeartbeats 4000000 in
set_option maxRecDepth 100000 in
theorem ww_MO_read_70 {p : Program} {l : Launch} {e : Env} {s : State} {m : MethodId} {args : Array Value} {below : List Frame} {meth : Method} {c : Code} {E : Ev} {A : Nat → Prop} {ad : Nat → Nat} {r : Int32} {x' : St} (C0 : Cx E A RMO bb_MO_read 2 (some .int) p s m args meth c) (hap : Ap ad ixM A)  {x : St} {v0 : Nat} {v1 : Int32} (ho_v0 : isO ixM v0 6) (hf : ff_MO_read_70 x v0 v1 = some (r, x')) {H : Heap} {locs : List Loc} {ls : Array Slot} (hP : Wd E ad ixM x H) (hS : va_S A s.heap H locs) (hl : lv_has ls 2 [(0, .ref (ad v0)), (1, .int v1)]) : W p l e rm_MO_read s m args below meth c H locs 0 0 (MQ below (QX E ad ixM A (some (.int r)) x') args s 0 0 A) (F0 m 70 ls []) := by
  obtain ⟨hx, hb, hml, hr, hown, hts, hlk, hK⟩ := id C0
  have hf : st (si x v0 1 0) (fun x_9 => (if (gi x_9 v0 12) = (-1) then bnd (ff_MO_copy x_9 v0 945 0) (fun _ x_12 => some (v1, x_12)) else some ((-10) - (gi x_9 v0 12), x_9))) = some (r, x') := hf
  refine lv_aload_n hx hb dd_MO_read_70 rfl (lv_at hl 0 rfl) ?_
  refine lv_iconst (v := 0) hx hb dd_MO_read_71 (by decide) ?_
  obtain ⟨x_9, hx_9, hf⟩ := of_st hf
  refine pf_MO_57 C0 hap hP hS ho_v0 hx_9 dd_MO_read_72 (fun H locs hP hS => ?_)
  refine lv_aload_n hx hb dd_MO_read_75 rfl (lv_at hl 0 rfl) ?_
  refine gf_MO_144 C0 hP ho_v0 dd_MO_read_76 ?_
  refine lv_iconst (v := -1) hx hb dd_MO_read_79 (by decide) ?_
  refine lv_icmp_eq (tgt := 91) hx hb dd_MO_read_80 (by decide) (fun h_10 => ?_) (fun h_10 => ?_)
  · have hf := (if_pos h_10).symm.trans hf
    refine lv_aload_n hx hb dd_MO_read_91 rfl (lv_at hl 0 rfl) ?_
    refine lv_sipush (v := 945) hx hb dd_MO_read_92 (by decide) ?_
    refine lv_iconst (v := 0) hx hb dd_MO_read_95 (by decide) ?_
    obtain ⟨_, x_12, c_13, hf⟩ := of_bnd hf
    refine cl_MO_170 C0 hap ho_v0 c_13 hP hS ⟨Nat.le_of_ble_eq_true rfl, Nat.le_of_ble_eq_true rfl⟩ hl.1 (Nat.le_of_ble_eq_true rfl) dd_MO_read_96 ⟨Nat.le_refl _, Nat.le_refl _⟩ (fun H locs hP hS => ?_)
    refine lv_iload_n hx hb dd_MO_read_99 rfl (lv_at hl 1 rfl) ?_
    exact rrI C0 hP hS dd_MO_read_100 hf
  · have hf := (if_neg h_10).symm.trans hf
    refine lv_bipush (v := -10) hx hb dd_MO_read_83 (by decide) ?_
    refine lv_aload_n hx hb dd_MO_read_85 rfl (lv_at hl 0 rfl) ?_
    refine gf_MO_144 C0 hP ho_v0 dd_MO_read_86 ?_
    refine lv_isub hx hb dd_MO_read_89 ?_
    exact rrI C0 hP hS dd_MO_read_90 hf
set_option maxHeartbeats 4000000 in
set_option maxRecDepth 100000 in
theorem ww_MO_read_43 {p : Program} {l : Launch} {e : Env} {s : State} {m : MethodId} {args : Array Value} {below : List Frame} {meth : Method} {c : Code} {E : Ev} {A : Nat → Prop} {ad : Nat → Nat} {r : Int32} {x' : St} (C0 : Cx E A RMO bb_MO_read 2 (some .int) p s m args meth c) (hap : Ap ad ixM A)  : ∀ (n : Nat), ∀ (x : St) (v0 : Nat) (v1 : Int32), (isO ixM v0 6) → ff_MO_read_43 n x v0 v1 = some (r, x') → ∀ (H : Heap) (locs : List Loc) (ls : Array Slot), Wd E ad ixM x H → va_S A s.heap H locs → lv_has ls 2 [(0, .ref (ad v0)), (1, .int v1)] → W p l e rm_MO_read s m args below meth c H locs 0 0 (MQ below (QX E ad ixM A (some (.int r)) x') args s 0 0 A) (F0 m 43 ls []) := by
  obtain ⟨hx, hb, hml, hr, hown, hts, hlk, hK⟩ := id C0
  intro n
  induction n with
  | zero => intro x v0 v1 ho_v0 hf; exact of_no hf
  | succ n ih =>
    intro x v0 v1 ho_v0 hf H locs ls hP hS hl
    have hf : (if (gi x v0 12) = (-1) then (if (gi x v0 10) = 9 then ff_MO_read_70 x v0 v1 else bnd (ff_MO_readItem x v0) (fun _ x_16 => ff_MO_read_43 n x_16 v0 (v1 + 1))) else ff_MO_read_70 x v0 v1) = some (r, x') := hf
    refine lv_aload_n hx hb dd_MO_read_43 rfl (lv_at hl 0 rfl) ?_
    refine gf_MO_144 C0 hP ho_v0 dd_MO_read_44 ?_
    refine lv_iconst (v := -1) hx hb dd_MO_read_47 (by decide) ?_
    refine lv_icmp_ne (tgt := 70) hx hb dd_MO_read_48 (by decide) (fun h_8 => ?_) (fun h_8 => ?_)
    · have hf := (if_neg h_8).symm.trans hf
      exact ww_MO_read_70 C0 hap  ho_v0 hf hP hS (lv_sub hl [0, 1] rfl)
    · have hf := (if_pos h_8).symm.trans hf
      refine lv_aload_n hx hb dd_MO_read_51 rfl (lv_at hl 0 rfl) ?_
      refine gf_MO_137 C0 hP ho_v0 dd_MO_read_52 ?_
      refine lv_bipush (v := 9) hx hb dd_MO_read_55 (by decide) ?_
      refine lv_icmp_eq (tgt := 70) hx hb dd_MO_read_57 (by decide) (fun h_14 => ?_) (fun h_14 => ?_)
      · have hf := (if_pos h_14).symm.trans hf
        exact ww_MO_read_70 C0 hap  ho_v0 hf hP hS (lv_sub hl [0, 1] rfl)
      · have hf := (if_neg h_14).symm.trans hf
        refine lv_aload_n hx hb dd_MO_read_60 rfl (lv_at hl 0 rfl) ?_
        obtain ⟨_, x_16, c_17, hf⟩ := of_bnd hf
        refine cl_MO_167 C0 hap ho_v0 c_17 hP hS ⟨Nat.le_of_ble_eq_true rfl, Nat.le_of_ble_eq_true rfl⟩ hl.1 (Nat.le_of_ble_eq_true rfl) dd_MO_read_61 ⟨Nat.le_refl _, Nat.le_refl _⟩ (fun H locs hP hS => ?_)
        refine lv_iinc (v := v1 + 1) (lv' := [(1, .int (v1 + 1)), (0, .ref (ad v0))]) hx hb dd_MO_read_64 hl (k := 1) rfl rfl (by decide) rfl (fun ls hl => ?_)
        refine lv_goto (tgt := 43) hx hb dd_MO_read_67 (by decide) ?_
        exact ih x_16 v0 (v1 + 1) ho_v0 hf _ _ _ hP hS (lv_sub hl [1, 0] rfl)
set_option maxHeartbeats 4000000 in
set_option maxRecDepth 100000 in
theorem ww_MO_read_27 {p : Program} {l : Launch} {e : Env} {s : State} {m : MethodId} {args : Array Value} {below : List Frame} {meth : Method} {c : Code} {E : Ev} {A : Nat → Prop} {ad : Nat → Nat} {r : Int32} {x' : St} (C0 : Cx E A RMO bb_MO_read 2 (some .int) p s m args meth c) (hap : Ap ad ixM A)  {x : St} {v0 : Nat} (ho_v0 : isO ixM v0 6) (hf : ff_MO_read_27 x v0 = some (r, x')) {H : Heap} {locs : List Loc} {ls : Array Slot} (hP : Wd E ad ixM x H) (hS : va_S A s.heap H locs) (hl : lv_has ls 2 [(0, .ref (ad v0))]) : W p l e rm_MO_read s m args below meth c H locs 0 0 (MQ below (QX E ad ixM A (some (.int r)) x') args s 0 0 A) (F0 m 27 ls []) := by
  obtain ⟨hx, hb, hml, hr, hown, hts, hlk, hK⟩ := id C0
  have hf : st (si x v0 8 0) (fun x_3 => st (si x_3 v0 12 (-1)) (fun x_4 => bnd (ff_MO_next x_4 v0) (fun _ x_6 => ff_MO_read_43 FU x_6 v0 0))) = some (r, x') := hf
  refine lv_aload_n hx hb dd_MO_read_27 rfl (lv_at hl 0 rfl) ?_
  refine lv_iconst (v := 0) hx hb dd_MO_read_28 (by decide) ?_
  obtain ⟨x_3, hx_3, hf⟩ := of_st hf
  refine pf_MO_123 C0 hap hP hS ho_v0 hx_3 dd_MO_read_29 (fun H locs hP hS => ?_)
  refine lv_aload_n hx hb dd_MO_read_32 rfl (lv_at hl 0 rfl) ?_
  refine lv_iconst (v := -1) hx hb dd_MO_read_33 (by decide) ?_
  obtain ⟨x_4, hx_4, hf⟩ := of_st hf
  refine pf_MO_144 C0 hap hP hS ho_v0 hx_4 dd_MO_read_34 (fun H locs hP hS => ?_)
  refine lv_iconst (v := 0) hx hb dd_MO_read_37 (by decide) ?_
  refine lv_istore_n (lv' := [(1, .int 0), (0, .ref (ad v0))]) hx hb dd_MO_read_38 rfl hl (by decide) rfl (fun ls hl => ?_)
  refine lv_aload_n hx hb dd_MO_read_39 rfl (lv_at hl 1 rfl) ?_
  obtain ⟨_, x_6, c_7, hf⟩ := of_bnd hf
  refine cl_MO_147 C0 hap ho_v0 c_7 hP hS ⟨Nat.le_of_ble_eq_true rfl, Nat.le_of_ble_eq_true rfl⟩ hl.1 (Nat.le_of_ble_eq_true rfl) dd_MO_read_40 ⟨Nat.le_refl _, Nat.le_refl _⟩ (fun H locs hP hS => ?_)
  exact ww_MO_read_43 C0 hap  FU x_6 v0 0 ho_v0 hf _ _ _ hP hS (lv_sub hl [1, 0] rfl)
set_option maxHeartbeats 4000000 in
set_option maxRecDepth 100000 in
theorem ww_MO_read_9 {p : Program} {l : Launch} {e : Env} {s : State} {m : MethodId} {args : Array Value} {below : List Frame} {meth : Method} {c : Code} {E : Ev} {A : Nat → Prop} {ad : Nat → Nat} {r : Int32} {x' : St} (C0 : Cx E A RMO bb_MO_read 2 (some .int) p s m args meth c) (hap : Ap ad ixM A)  : ∀ (n : Nat), ∀ (x : St) (v0 : Nat) (v1 : Int32), (isO ixM v0 6) → ff_MO_read_9 n x v0 v1 = some (r, x') → ∀ (H : Heap) (locs : List Loc) (ls : Array Slot), Wd E ad ixM x H → va_S A s.heap H locs → lv_has ls 2 [(0, .ref (ad v0)), (1, .int v1)] → W p l e rm_MO_read s m args below meth c H locs 0 0 (MQ below (QX E ad ixM A (some (.int r)) x') args s 0 0 A) (F0 m 9 ls []) := by
  obtain ⟨hx, hb, hml, hr, hown, hts, hlk, hK⟩ := id C0
  intro n
  induction n with
  | zero => intro x v0 v1 ho_v0 hf; exact of_no hf
  | succ n ih =>
    intro x v0 v1 ho_v0 hf H locs ls hP hS hl
    have hf : (if 7 ≤ v1 then ff_MO_read_27 x v0 else bnd (ff_MO_set x v0 v1 0) (fun _ x_19 => ff_MO_read_9 n x_19 v0 (v1 + 1))) = some (r, x') := hf
    refine lv_iload_n hx hb dd_MO_read_9 rfl (lv_at hl 1 rfl) ?_
    refine lv_bipush (v := 7) hx hb dd_MO_read_10 (by decide) ?_
    refine lv_icmp_ge (tgt := 27) hx hb dd_MO_read_12 (by decide) (fun h_2 => ?_) (fun h_2 => ?_)
    · have hf := (if_pos h_2).symm.trans hf
      exact ww_MO_read_27 C0 hap  ho_v0 hf hP hS (lv_sub hl [0] rfl)
    · have hf := (if_neg h_2).symm.trans hf
      refine lv_aload_n hx hb dd_MO_read_15 rfl (lv_at hl 0 rfl) ?_
      refine lv_iload_n hx hb dd_MO_read_16 rfl (lv_at hl 1 rfl) ?_
      refine lv_iconst (v := 0) hx hb dd_MO_read_17 (by decide) ?_
      obtain ⟨_, x_19, c_20, hf⟩ := of_bnd hf
      refine cl_MO_68 C0 hap ho_v0 c_20 hP hS ⟨Nat.le_of_ble_eq_true rfl, Nat.le_of_ble_eq_true rfl⟩ hl.1 (Nat.le_of_ble_eq_true rfl) dd_MO_read_18 ⟨Nat.le_refl _, Nat.le_refl _⟩ (fun H locs hP hS => ?_)
      refine lv_iinc (v := v1 + 1) (lv' := [(1, .int (v1 + 1)), (0, .ref (ad v0))]) hx hb dd_MO_read_21 hl (k := 1) rfl rfl (by decide) rfl (fun ls hl => ?_)
      refine lv_goto (tgt := 9) hx hb dd_MO_read_24 (by decide) ?_
      exact ih x_19 v0 (v1 + 1) ho_v0 hf _ _ _ hP hS (lv_sub hl [1, 0] rfl)
set_option maxHeartbeats 4000000 in
set_option maxRecDepth 100000 in
theorem ww_MO_read {p : Program} {l : Launch} {e : Env} {s : State} {m : MethodId} {args : Array Value} {below : List Frame} {meth : Method} {c : Code} {E : Ev} {A : Nat → Prop} {ad : Nat → Nat} {r : Int32} {x' : St} (C0 : Cx E A RMO bb_MO_read 2 (some .int) p s m args meth c) (hap : Ap ad ixM A)  {x : St} {v0 : Nat} (ho_v0 : isO ixM v0 6) (hf : ff_MO_read x v0 = some (r, x')) {H : Heap} {locs : List Loc} {ls : Array Slot} (hP : Wd E ad ixM x H) (hS : va_S A s.heap H locs) (hl : lv_has ls 2 [(0, .ref (ad v0))]) : W p l e rm_MO_read s m args below meth c H locs 0 0 (MQ below (QX E ad ixM A (some (.int r)) x') args s 0 0 A) (F0 m 0 ls []) := by
  obtain ⟨hx, hb, hml, hr, hown, hts, hlk, hK⟩ := id C0
  have hf : st (si x v0 1 945) (fun x_1 => ff_MO_read_9 FU x_1 v0 0) = some (r, x') := hf
  refine lv_aload_n hx hb dd_MO_read_0 rfl (lv_at hl 0 rfl) ?_
  refine lv_sipush (v := 945) hx hb dd_MO_read_1 (by decide) ?_
  obtain ⟨x_1, hx_1, hf⟩ := of_st hf
  refine pf_MO_57 C0 hap hP hS ho_v0 hx_1 dd_MO_read_4 (fun H locs hP hS => ?_)
  refine lv_iconst (v := 0) hx hb dd_MO_read_7 (by decide) ?_
  refine lv_istore_n (lv' := [(1, .int 0), (0, .ref (ad v0))]) hx hb dd_MO_read_8 rfl hl (by decide) rfl (fun ls hl => ?_)
  exact ww_MO_read_9 C0 hap  FU x_1 v0 0 ho_v0 hf _ _ _ hP hS (lv_sub hl [1, 0] rfl)
theorem cc_MO_read {l : Launch} {E : Ev} {A : Nat → Prop} {ad : Nat → Nat} (hap : Ap ad ixM A) {x x' : St} {v0 : Nat} {r : Int32} (ho_v0 : isO ixM v0 6) (hf : ff_MO_read x v0 = some (r, x')) : Met l yy_MO_read (Cond.code yy_MO_read bb_MO_read 2 (some .int) :: gtb) rm_MO_read (va_Pc [.ref (ad v0)] (PB E A ad ixM x)) (QX E ad ixM A (some (.int r)) x') 0 0 A := by
  exact enter (by decide) (Nat.le_of_ble_eq_true rfl) (fun p e s m below meth c ls C0 hP hS hl => ww_MO_read C0 hap ho_v0 hf hP hS hl)
abbrev rm_MO_grief : Room := { frames := 5, cells := 0, slots := 0, locals := 113 }
theorem dd_MO_grief_0 : decode bb_MO_grief 0 = .ok (.aload_n 0, 1) := by decide +kernel
theorem dd_MO_grief_1 : decode bb_MO_grief 1 = .ok (.iload_n 1, 1) := by decide +kernel
theorem dd_MO_grief_2 : decode bb_MO_grief 2 = .ok (.invokevirtual 94, 3) := by decide +kernel
theorem dd_MO_grief_5 : decode bb_MO_grief 5 = .ok (.ifCond .eq 13, 3) := by decide +kernel
theorem dd_MO_grief_8 : decode bb_MO_grief 8 = .ok (.iload_n 2, 1) := by decide +kernel
theorem dd_MO_grief_9 : decode bb_MO_grief 9 = .ok (.iconst 0, 1) := by decide +kernel
theorem dd_MO_grief_10 : decode bb_MO_grief 10 = .ok (.bipush 99, 2) := by decide +kernel
theorem dd_MO_grief_12 : decode bb_MO_grief 12 = .ok (.invokestatic 64, 3) := by decide +kernel
theorem dd_MO_grief_15 : decode bb_MO_grief 15 = .ok (.ifCond .ne 8, 3) := by decide +kernel
theorem dd_MO_grief_18 : decode bb_MO_grief 18 = .ok (.aload_n 0, 1) := by decide +kernel
theorem dd_MO_grief_19 : decode bb_MO_grief 19 = .ok (.invokevirtual 72, 3) := by decide +kernel
theorem dd_MO_grief_22 : decode bb_MO_grief 22 = .ok (.ireturn, 1) := by decide +kernel
theorem dd_MO_grief_23 : decode bb_MO_grief 23 = .ok (.aload_n 0, 1) := by decide +kernel
theorem dd_MO_grief_24 : decode bb_MO_grief 24 = .ok (.iconst (-1), 1) := by decide +kernel
theorem dd_MO_grief_25 : decode bb_MO_grief 25 = .ok (.invokevirtual 189, 3) := by decide +kernel
theorem dd_MO_grief_28 : decode bb_MO_grief 28 = .ok (.aload_n 0, 1) := by decide +kernel
theorem dd_MO_grief_29 : decode bb_MO_grief 29 = .ok (.getfield 28, 3) := by decide +kernel
theorem dd_MO_grief_32 : decode bb_MO_grief 32 = .ok (.bipush 100, 2) := by decide +kernel
theorem dd_MO_grief_34 : decode bb_MO_grief 34 = .ok (.iload_n 1, 1) := by decide +kernel
theorem dd_MO_grief_35 : decode bb_MO_grief 35 = .ok (.imul, 1) := by decide +kernel
theorem dd_MO_grief_36 : decode bb_MO_grief 36 = .ok (.iload_n 2, 1) := by decide +kernel
theorem dd_MO_grief_37 : decode bb_MO_grief 37 = .ok (.iadd, 1) := by decide +kernel
theorem dd_MO_grief_38 : decode bb_MO_grief 38 = .ok (.iaload, 1) := by decide +kernel
theorem dd_MO_grief_39 : decode bb_MO_grief 39 = .ok (.ireturn, 1) := by decide +kernel
def ff_MO_grief  (x : St) (v0 : Nat) (v1 : Int32) (v2 : Int32) : Option (Int32 × St) := bnd (ff_MO_isMourner x v0 v1) (fun r_1 x_2 => (if r_1 = 0 then bnd (ff_MO_bad x_2 v0) (fun r_5 x_6 => some (r_5, x_6)) else bnd (ff_MO_in x_2 v2 0 99) (fun r_8 x_9 => (if r_8 = 0 then bnd (ff_MO_bad x_9 v0) (fun r_16 x_17 => some (r_16, x_17)) else bnd (ff_MO_findGriefs x_9 v0 (-1)) (fun _ x_13 => (if ixb ((100 * v1) + v2) (ln (rf v0 14)) = true then some (gi x_13 (rf v0 14) (ix ((100 * v1) + v2)), x_13) else none))))))
set_option maxHeartbeats 4000000 in
set_option maxRecDepth 100000 in
theorem ww_MO_grief {p : Program} {l : Launch} {e : Env} {s : State} {m : MethodId} {args : Array Value} {below : List Frame} {meth : Method} {c : Code} {E : Ev} {A : Nat → Prop} {ad : Nat → Nat} {r : Int32} {x' : St} (C0 : Cx E A RMO bb_MO_grief 3 (some .int) p s m args meth c) (hap : Ap ad ixM A)  {x : St} {v0 : Nat} {v1 : Int32} {v2 : Int32} (ho_v0 : isO ixM v0 6) (hf : ff_MO_grief x v0 v1 v2 = some (r, x')) {H : Heap} {locs : List Loc} {ls : Array Slot} (hP : Wd E ad ixM x H) (hS : va_S A s.heap H locs) (hl : lv_has ls 3 [(0, .ref (ad v0)), (1, .int v1), (2, .int v2)]) : W p l e rm_MO_grief s m args below meth c H locs 0 0 (MQ below (QX E ad ixM A (some (.int r)) x') args s 0 0 A) (F0 m 0 ls []) := by
  obtain ⟨hx, hb, hml, hr, hown, hts, hlk, hK⟩ := id C0
  have hf : bnd (ff_MO_isMourner x v0 v1) (fun r_1 x_2 => (if r_1 = 0 then bnd (ff_MO_bad x_2 v0) (fun r_5 x_6 => some (r_5, x_6)) else bnd (ff_MO_in x_2 v2 0 99) (fun r_8 x_9 => (if r_8 = 0 then bnd (ff_MO_bad x_9 v0) (fun r_16 x_17 => some (r_16, x_17)) else bnd (ff_MO_findGriefs x_9 v0 (-1)) (fun _ x_13 => (if ixb ((100 * v1) + v2) (ln (rf v0 14)) = true then some (gi x_13 (rf v0 14) (ix ((100 * v1) + v2)), x_13) else none)))))) = some (r, x') := hf
  refine lv_aload_n hx hb dd_MO_grief_0 rfl (lv_at hl 0 rfl) ?_
  refine lv_iload_n hx hb dd_MO_grief_1 rfl (lv_at hl 1 rfl) ?_
  obtain ⟨r_1, x_2, c_3, hf⟩ := of_bnd hf
  refine cl_MO_94 C0 hap ho_v0 c_3 hP hS ⟨Nat.le_of_ble_eq_true rfl, Nat.le_of_ble_eq_true rfl⟩ hl.1 (Nat.le_of_ble_eq_true rfl) dd_MO_grief_2 ⟨Nat.le_refl _, Nat.le_refl _⟩ (fun H locs hP hS => ?_)
  refine lv_if_eq (tgt := 18) hx hb dd_MO_grief_5 (by decide) (fun h_4 => ?_) (fun h_4 => ?_)
  · have hf := (if_pos h_4).symm.trans hf
    refine lv_aload_n hx hb dd_MO_grief_18 rfl (lv_at hl 0 rfl) ?_
    obtain ⟨r_5, x_6, c_7, hf⟩ := of_bnd hf
    refine cl_MO_72 C0 hap ho_v0 c_7 hP hS ⟨Nat.le_of_ble_eq_true rfl, Nat.le_of_ble_eq_true rfl⟩ hl.1 (Nat.le_of_ble_eq_true rfl) dd_MO_grief_19 ⟨Nat.le_refl _, Nat.le_refl _⟩ (fun H locs hP hS => ?_)
    exact rrI C0 hP hS dd_MO_grief_22 hf
  · have hf := (if_neg h_4).symm.trans hf
    refine lv_iload_n hx hb dd_MO_grief_8 rfl (lv_at hl 2 rfl) ?_
    refine lv_iconst (v := 0) hx hb dd_MO_grief_9 (by decide) ?_
    refine lv_bipush (v := 99) hx hb dd_MO_grief_10 (by decide) ?_
    obtain ⟨r_8, x_9, c_10, hf⟩ := of_bnd hf
    refine cl_MO_64 C0 hap  c_10 hP hS ⟨Nat.le_of_ble_eq_true rfl, Nat.le_of_ble_eq_true rfl⟩ hl.1 (Nat.le_of_ble_eq_true rfl) dd_MO_grief_12 ⟨Nat.le_refl _, Nat.le_refl _⟩ (fun H locs hP hS => ?_)
    refine lv_if_ne (tgt := 23) hx hb dd_MO_grief_15 (by decide) (fun h_11 => ?_) (fun h_11 => ?_)
    · have hf := (if_neg h_11).symm.trans hf
      refine lv_aload_n hx hb dd_MO_grief_23 rfl (lv_at hl 0 rfl) ?_
      refine lv_iconst (v := -1) hx hb dd_MO_grief_24 (by decide) ?_
      obtain ⟨_, x_13, c_14, hf⟩ := of_bnd hf
      refine cl_MO_189 C0 hap ho_v0 c_14 hP hS ⟨Nat.le_of_ble_eq_true rfl, Nat.le_of_ble_eq_true rfl⟩ hl.1 (Nat.le_of_ble_eq_true rfl) dd_MO_grief_25 ⟨Nat.le_refl _, Nat.le_refl _⟩ (fun H locs hP hS => ?_)
      refine lv_aload_n hx hb dd_MO_grief_28 rfl (lv_at hl 0 rfl) ?_
      refine gf_MO_28 C0 hP ho_v0 dd_MO_grief_29 ?_
      refine lv_bipush (v := 100) hx hb dd_MO_grief_32 (by decide) ?_
      refine lv_iload_n hx hb dd_MO_grief_34 rfl (lv_at hl 1 rfl) ?_
      refine lv_imul hx hb dd_MO_grief_35 ?_
      refine lv_iload_n hx hb dd_MO_grief_36 rfl (lv_at hl 2 rfl) ?_
      refine lv_iadd hx hb dd_MO_grief_37 ?_
      obtain ⟨h_15, hf⟩ := of_ifb hf
      refine raI C0 hP (tp_6_14 ho_v0) h_15 dd_MO_grief_38 ?_
      exact rrI C0 hP hS dd_MO_grief_39 hf
    · have hf := (if_pos h_11).symm.trans hf
      refine lv_aload_n hx hb dd_MO_grief_18 rfl (lv_at hl 0 rfl) ?_
      obtain ⟨r_16, x_17, c_18, hf⟩ := of_bnd hf
      refine cl_MO_72 C0 hap ho_v0 c_18 hP hS ⟨Nat.le_of_ble_eq_true rfl, Nat.le_of_ble_eq_true rfl⟩ hl.1 (Nat.le_of_ble_eq_true rfl) dd_MO_grief_19 ⟨Nat.le_refl _, Nat.le_refl _⟩ (fun H locs hP hS => ?_)
      exact rrI C0 hP hS dd_MO_grief_22 hf
theorem cc_MO_grief {l : Launch} {E : Ev} {A : Nat → Prop} {ad : Nat → Nat} (hap : Ap ad ixM A) {x x' : St} {v0 : Nat} {v1 : Int32} {v2 : Int32} {r : Int32} (ho_v0 : isO ixM v0 6) (hf : ff_MO_grief x v0 v1 v2 = some (r, x')) : Met l yy_MO_grief (Cond.code yy_MO_grief bb_MO_grief 3 (some .int) :: gtb) rm_MO_grief (va_Pc [.ref (ad v0), .int v1, .int v2] (PB E A ad ixM x)) (QX E ad ixM A (some (.int r)) x') 0 0 A := by
  exact enter (by decide) (Nat.le_of_ble_eq_true rfl) (fun p e s m below meth c ls C0 hP hS hl => ww_MO_grief C0 hap ho_v0 hf hP hS hl)
abbrev rm_MO_opens : Room := { frames := 6, cells := 0, slots := 0, locals := 134 }
theorem dd_MO_opens_0 : decode bb_MO_opens 0 = .ok (.aload_n 0, 1) := by decide +kernel
theorem dd_MO_opens_1 : decode bb_MO_opens 1 = .ok (.iload_n 1, 1) := by decide +kernel
theorem dd_MO_opens_2 : decode bb_MO_opens 2 = .ok (.invokevirtual 103, 3) := by decide +kernel
theorem dd_MO_opens_5 : decode bb_MO_opens 5 = .ok (.ifCond .ne 8, 3) := by decide +kernel
theorem dd_MO_opens_8 : decode bb_MO_opens 8 = .ok (.aload_n 0, 1) := by decide +kernel
theorem dd_MO_opens_9 : decode bb_MO_opens 9 = .ok (.invokevirtual 72, 3) := by decide +kernel
theorem dd_MO_opens_12 : decode bb_MO_opens 12 = .ok (.ireturn, 1) := by decide +kernel
theorem dd_MO_opens_13 : decode bb_MO_opens 13 = .ok (.aload_n 0, 1) := by decide +kernel
theorem dd_MO_opens_14 : decode bb_MO_opens 14 = .ok (.iload_n 1, 1) := by decide +kernel
theorem dd_MO_opens_15 : decode bb_MO_opens 15 = .ok (.invokevirtual 198, 3) := by decide +kernel
theorem dd_MO_opens_18 : decode bb_MO_opens 18 = .ok (.ifCond .eq 11, 3) := by decide +kernel
theorem dd_MO_opens_21 : decode bb_MO_opens 21 = .ok (.aload_n 0, 1) := by decide +kernel
theorem dd_MO_opens_22 : decode bb_MO_opens 22 = .ok (.iload_n 1, 1) := by decide +kernel
theorem dd_MO_opens_23 : decode bb_MO_opens 23 = .ok (.invokevirtual 112, 3) := by decide +kernel
theorem dd_MO_opens_26 : decode bb_MO_opens 26 = .ok (.goto 4, 3) := by decide +kernel
theorem dd_MO_opens_29 : decode bb_MO_opens 29 = .ok (.iconst (-1), 1) := by decide +kernel
theorem dd_MO_opens_30 : decode bb_MO_opens 30 = .ok (.ireturn, 1) := by decide +kernel
def ff_MO_opens  (x : St) (v0 : Nat) (v1 : Int32) : Option (Int32 × St) := bnd (ff_MO_isJoint x v0 v1) (fun r_1 x_2 => (if r_1 = 0 then bnd (ff_MO_bad x_2 v0) (fun r_12 x_13 => some (r_12, x_13)) else bnd (ff_MO_isBoiled x_2 v0 v1) (fun r_5 x_6 => (if r_5 = 0 then some ((-1), x_6) else bnd (ff_MO_opensOn x_6 v0 v1) (fun r_9 x_10 => some (r_9, x_10))))))
set_option maxHeartbeats 4000000 in
set_option maxRecDepth 100000 in
theorem ww_MO_opens {p : Program} {l : Launch} {e : Env} {s : State} {m : MethodId} {args : Array Value} {below : List Frame} {meth : Method} {c : Code} {E : Ev} {A : Nat → Prop} {ad : Nat → Nat} {r : Int32} {x' : St} (C0 : Cx E A RMO bb_MO_opens 2 (some .int) p s m args meth c) (hap : Ap ad ixM A)  {x : St} {v0 : Nat} {v1 : Int32} (ho_v0 : isO ixM v0 6) (hf : ff_MO_opens x v0 v1 = some (r, x')) {H : Heap} {locs : List Loc} {ls : Array Slot} (hP : Wd E ad ixM x H) (hS : va_S A s.heap H locs) (hl : lv_has ls 2 [(0, .ref (ad v0)), (1, .int v1)]) : W p l e rm_MO_opens s m args below meth c H locs 0 0 (MQ below (QX E ad ixM A (some (.int r)) x') args s 0 0 A) (F0 m 0 ls []) := by
  obtain ⟨hx, hb, hml, hr, hown, hts, hlk, hK⟩ := id C0
  have hf : bnd (ff_MO_isJoint x v0 v1) (fun r_1 x_2 => (if r_1 = 0 then bnd (ff_MO_bad x_2 v0) (fun r_12 x_13 => some (r_12, x_13)) else bnd (ff_MO_isBoiled x_2 v0 v1) (fun r_5 x_6 => (if r_5 = 0 then some ((-1), x_6) else bnd (ff_MO_opensOn x_6 v0 v1) (fun r_9 x_10 => some (r_9, x_10)))))) = some (r, x') := hf
  refine lv_aload_n hx hb dd_MO_opens_0 rfl (lv_at hl 0 rfl) ?_
  refine lv_iload_n hx hb dd_MO_opens_1 rfl (lv_at hl 1 rfl) ?_
  obtain ⟨r_1, x_2, c_3, hf⟩ := of_bnd hf
  refine cl_MO_103 C0 hap ho_v0 c_3 hP hS ⟨Nat.le_of_ble_eq_true rfl, Nat.le_of_ble_eq_true rfl⟩ hl.1 (Nat.le_of_ble_eq_true rfl) dd_MO_opens_2 ⟨Nat.le_refl _, Nat.le_refl _⟩ (fun H locs hP hS => ?_)
  refine lv_if_ne (tgt := 13) hx hb dd_MO_opens_5 (by decide) (fun h_4 => ?_) (fun h_4 => ?_)
  · have hf := (if_neg h_4).symm.trans hf
    refine lv_aload_n hx hb dd_MO_opens_13 rfl (lv_at hl 0 rfl) ?_
    refine lv_iload_n hx hb dd_MO_opens_14 rfl (lv_at hl 1 rfl) ?_
    obtain ⟨r_5, x_6, c_7, hf⟩ := of_bnd hf
    refine cl_MO_198 C0 hap ho_v0 c_7 hP hS ⟨Nat.le_of_ble_eq_true rfl, Nat.le_of_ble_eq_true rfl⟩ hl.1 (Nat.le_of_ble_eq_true rfl) dd_MO_opens_15 ⟨Nat.le_refl _, Nat.le_refl _⟩ (fun H locs hP hS => ?_)
    refine lv_if_eq (tgt := 29) hx hb dd_MO_opens_18 (by decide) (fun h_8 => ?_) (fun h_8 => ?_)
    · have hf := (if_pos h_8).symm.trans hf
      refine lv_iconst (v := -1) hx hb dd_MO_opens_29 (by decide) ?_
      exact rrI C0 hP hS dd_MO_opens_30 hf
    · have hf := (if_neg h_8).symm.trans hf
      refine lv_aload_n hx hb dd_MO_opens_21 rfl (lv_at hl 0 rfl) ?_
      refine lv_iload_n hx hb dd_MO_opens_22 rfl (lv_at hl 1 rfl) ?_
      obtain ⟨r_9, x_10, c_11, hf⟩ := of_bnd hf
      refine cl_MO_112 C0 hap ho_v0 c_11 hP hS ⟨Nat.le_of_ble_eq_true rfl, Nat.le_of_ble_eq_true rfl⟩ hl.1 (Nat.le_of_ble_eq_true rfl) dd_MO_opens_23 ⟨Nat.le_refl _, Nat.le_refl _⟩ (fun H locs hP hS => ?_)
      refine lv_goto (tgt := 30) hx hb dd_MO_opens_26 (by decide) ?_
      exact rrI C0 hP hS dd_MO_opens_30 hf
  · have hf := (if_pos h_4).symm.trans hf
    refine lv_aload_n hx hb dd_MO_opens_8 rfl (lv_at hl 0 rfl) ?_
    obtain ⟨r_12, x_13, c_14, hf⟩ := of_bnd hf
    refine cl_MO_72 C0 hap ho_v0 c_14 hP hS ⟨Nat.le_of_ble_eq_true rfl, Nat.le_of_ble_eq_true rfl⟩ hl.1 (Nat.le_of_ble_eq_true rfl) dd_MO_opens_9 ⟨Nat.le_refl _, Nat.le_refl _⟩ (fun H locs hP hS => ?_)
    exact rrI C0 hP hS dd_MO_opens_12 hf
theorem cc_MO_opens {l : Launch} {E : Ev} {A : Nat → Prop} {ad : Nat → Nat} (hap : Ap ad ixM A) {x x' : St} {v0 : Nat} {v1 : Int32} {r : Int32} (ho_v0 : isO ixM v0 6) (hf : ff_MO_opens x v0 v1 = some (r, x')) : Met l yy_MO_opens (Cond.code yy_MO_opens bb_MO_opens 2 (some .int) :: gtb) rm_MO_opens (va_Pc [.ref (ad v0), .int v1] (PB E A ad ixM x)) (QX E ad ixM A (some (.int r)) x') 0 0 A := by
  exact enter (by decide) (Nat.le_of_ble_eq_true rfl) (fun p e s m below meth c ls C0 hP hS hl => ww_MO_opens C0 hap ho_v0 hf hP hS hl)
abbrev rm_MO_isLasting : Room := { frames := 2, cells := 0, slots := 0, locals := 46 }
theorem dd_MO_isLasting_0 : decode bb_MO_isLasting 0 = .ok (.aload_n 0, 1) := by decide +kernel
theorem dd_MO_isLasting_1 : decode bb_MO_isLasting 1 = .ok (.bipush 49, 2) := by decide +kernel
theorem dd_MO_isLasting_3 : decode bb_MO_isLasting 3 = .ok (.iconst 2, 1) := by decide +kernel
theorem dd_MO_isLasting_4 : decode bb_MO_isLasting 4 = .ok (.iload_n 1, 1) := by decide +kernel
theorem dd_MO_isLasting_5 : decode bb_MO_isLasting 5 = .ok (.imul, 1) := by decide +kernel
theorem dd_MO_isLasting_6 : decode bb_MO_isLasting 6 = .ok (.iadd, 1) := by decide +kernel
theorem dd_MO_isLasting_7 : decode bb_MO_isLasting 7 = .ok (.invokevirtual 60, 3) := by decide +kernel
theorem dd_MO_isLasting_10 : decode bb_MO_isLasting 10 = .ok (.istore_n 2, 1) := by decide +kernel
theorem dd_MO_isLasting_11 : decode bb_MO_isLasting 11 = .ok (.aload_n 0, 1) := by decide +kernel
theorem dd_MO_isLasting_12 : decode bb_MO_isLasting 12 = .ok (.bipush 49, 2) := by decide +kernel
theorem dd_MO_isLasting_14 : decode bb_MO_isLasting 14 = .ok (.iconst 2, 1) := by decide +kernel
theorem dd_MO_isLasting_15 : decode bb_MO_isLasting 15 = .ok (.iload_n 1, 1) := by decide +kernel
theorem dd_MO_isLasting_16 : decode bb_MO_isLasting 16 = .ok (.imul, 1) := by decide +kernel
theorem dd_MO_isLasting_17 : decode bb_MO_isLasting 17 = .ok (.iadd, 1) := by decide +kernel
theorem dd_MO_isLasting_18 : decode bb_MO_isLasting 18 = .ok (.iconst 1, 1) := by decide +kernel
theorem dd_MO_isLasting_19 : decode bb_MO_isLasting 19 = .ok (.iadd, 1) := by decide +kernel
theorem dd_MO_isLasting_20 : decode bb_MO_isLasting 20 = .ok (.invokevirtual 60, 3) := by decide +kernel
theorem dd_MO_isLasting_23 : decode bb_MO_isLasting 23 = .ok (.aload_n 0, 1) := by decide +kernel
theorem dd_MO_isLasting_24 : decode bb_MO_isLasting 24 = .ok (.iconst 5, 1) := by decide +kernel
theorem dd_MO_isLasting_25 : decode bb_MO_isLasting 25 = .ok (.invokevirtual 60, 3) := by decide +kernel
theorem dd_MO_isLasting_28 : decode bb_MO_isLasting 28 = .ok (.if_icmp .le 18, 3) := by decide +kernel
theorem dd_MO_isLasting_31 : decode bb_MO_isLasting 31 = .ok (.aload_n 0, 1) := by decide +kernel
theorem dd_MO_isLasting_32 : decode bb_MO_isLasting 32 = .ok (.bipush 49, 2) := by decide +kernel
theorem dd_MO_isLasting_34 : decode bb_MO_isLasting 34 = .ok (.iconst 2, 1) := by decide +kernel
theorem dd_MO_isLasting_35 : decode bb_MO_isLasting 35 = .ok (.iload_n 1, 1) := by decide +kernel
theorem dd_MO_isLasting_36 : decode bb_MO_isLasting 36 = .ok (.imul, 1) := by decide +kernel
theorem dd_MO_isLasting_37 : decode bb_MO_isLasting 37 = .ok (.iadd, 1) := by decide +kernel
theorem dd_MO_isLasting_38 : decode bb_MO_isLasting 38 = .ok (.iconst 1, 1) := by decide +kernel
theorem dd_MO_isLasting_39 : decode bb_MO_isLasting 39 = .ok (.iadd, 1) := by decide +kernel
theorem dd_MO_isLasting_40 : decode bb_MO_isLasting 40 = .ok (.invokevirtual 60, 3) := by decide +kernel
theorem dd_MO_isLasting_43 : decode bb_MO_isLasting 43 = .ok (.goto 8, 3) := by decide +kernel
theorem dd_MO_isLasting_46 : decode bb_MO_isLasting 46 = .ok (.aload_n 0, 1) := by decide +kernel
theorem dd_MO_isLasting_47 : decode bb_MO_isLasting 47 = .ok (.iconst 5, 1) := by decide +kernel
theorem dd_MO_isLasting_48 : decode bb_MO_isLasting 48 = .ok (.invokevirtual 60, 3) := by decide +kernel
theorem dd_MO_isLasting_51 : decode bb_MO_isLasting 51 = .ok (.istore_n 3, 1) := by decide +kernel
theorem dd_MO_isLasting_52 : decode bb_MO_isLasting 52 = .ok (.iconst 1, 1) := by decide +kernel
theorem dd_MO_isLasting_53 : decode bb_MO_isLasting 53 = .ok (.istore 4, 2) := by decide +kernel
theorem dd_MO_isLasting_55 : decode bb_MO_isLasting 55 = .ok (.iconst 0, 1) := by decide +kernel
theorem dd_MO_isLasting_56 : decode bb_MO_isLasting 56 = .ok (.istore 5, 2) := by decide +kernel
theorem dd_MO_isLasting_58 : decode bb_MO_isLasting 58 = .ok (.iload 5, 2) := by decide +kernel
theorem dd_MO_isLasting_60 : decode bb_MO_isLasting 60 = .ok (.aload_n 0, 1) := by decide +kernel
theorem dd_MO_isLasting_61 : decode bb_MO_isLasting 61 = .ok (.iconst 1, 1) := by decide +kernel
theorem dd_MO_isLasting_62 : decode bb_MO_isLasting 62 = .ok (.invokevirtual 60, 3) := by decide +kernel
theorem dd_MO_isLasting_65 : decode bb_MO_isLasting 65 = .ok (.if_icmp .ge 49, 3) := by decide +kernel
theorem dd_MO_isLasting_68 : decode bb_MO_isLasting 68 = .ok (.iload 4, 2) := by decide +kernel
theorem dd_MO_isLasting_70 : decode bb_MO_isLasting 70 = .ok (.ifCond .eq 35, 3) := by decide +kernel
theorem dd_MO_isLasting_73 : decode bb_MO_isLasting 73 = .ok (.iload_n 2, 1) := by decide +kernel
theorem dd_MO_isLasting_74 : decode bb_MO_isLasting 74 = .ok (.iload 5, 2) := by decide +kernel
theorem dd_MO_isLasting_76 : decode bb_MO_isLasting 76 = .ok (.ishr, 1) := by decide +kernel
theorem dd_MO_isLasting_77 : decode bb_MO_isLasting 77 = .ok (.iconst 1, 1) := by decide +kernel
theorem dd_MO_isLasting_78 : decode bb_MO_isLasting 78 = .ok (.iand, 1) := by decide +kernel
theorem dd_MO_isLasting_79 : decode bb_MO_isLasting 79 = .ok (.ifCond .eq 22, 3) := by decide +kernel
theorem dd_MO_isLasting_82 : decode bb_MO_isLasting 82 = .ok (.aload_n 0, 1) := by decide +kernel
theorem dd_MO_isLasting_83 : decode bb_MO_isLasting 83 = .ok (.iload 5, 2) := by decide +kernel
theorem dd_MO_isLasting_85 : decode bb_MO_isLasting 85 = .ok (.invokevirtual 198, 3) := by decide +kernel
theorem dd_MO_isLasting_88 : decode bb_MO_isLasting 88 = .ok (.ifCond .eq 17, 3) := by decide +kernel
theorem dd_MO_isLasting_91 : decode bb_MO_isLasting 91 = .ok (.aload_n 0, 1) := by decide +kernel
theorem dd_MO_isLasting_92 : decode bb_MO_isLasting 92 = .ok (.iload 5, 2) := by decide +kernel
theorem dd_MO_isLasting_94 : decode bb_MO_isLasting 94 = .ok (.invokevirtual 195, 3) := by decide +kernel
theorem dd_MO_isLasting_97 : decode bb_MO_isLasting 97 = .ok (.iload_n 3, 1) := by decide +kernel
theorem dd_MO_isLasting_98 : decode bb_MO_isLasting 98 = .ok (.if_icmp .le 7, 3) := by decide +kernel
theorem dd_MO_isLasting_101 : decode bb_MO_isLasting 101 = .ok (.iconst 1, 1) := by decide +kernel
theorem dd_MO_isLasting_102 : decode bb_MO_isLasting 102 = .ok (.goto 4, 3) := by decide +kernel
theorem dd_MO_isLasting_105 : decode bb_MO_isLasting 105 = .ok (.iconst 0, 1) := by decide +kernel
theorem dd_MO_isLasting_106 : decode bb_MO_isLasting 106 = .ok (.istore 4, 2) := by decide +kernel
theorem dd_MO_isLasting_108 : decode bb_MO_isLasting 108 = .ok (.iinc 5 1, 3) := by decide +kernel
theorem dd_MO_isLasting_111 : decode bb_MO_isLasting 111 = .ok (.goto (-53), 3) := by decide +kernel
theorem dd_MO_isLasting_114 : decode bb_MO_isLasting 114 = .ok (.iload 4, 2) := by decide +kernel
theorem dd_MO_isLasting_116 : decode bb_MO_isLasting 116 = .ok (.ireturn, 1) := by decide +kernel
def ff_MO_isLasting_58  : Nat → St → Nat → Int32 → Int32 → Int32 → Int32 → Option (Int32 × St)
  | 0, _, _, _, _, _, _ => none
  | n + 1, x, v0, v2, v3, v4, v5 => bnd (ff_MO_get x v0 1) (fun r_14 x_15 => (if r_14 ≤ v5 then (if zb v4 = true then some (v4, x_15) else none) else (if v4 = 0 then ff_MO_isLasting_58 n x_15 v0 v2 v3 0 (v5 + 1) else (if ((v2 >>> (v5 &&& 31)) &&& 1) = 0 then ff_MO_isLasting_58 n x_15 v0 v2 v3 1 (v5 + 1) else bnd (ff_MO_isBoiled x_15 v0 v5) (fun r_21 x_22 => (if r_21 = 0 then ff_MO_isLasting_58 n x_22 v0 v2 v3 0 (v5 + 1) else bnd (ff_MO_opensBy x_22 v0 v5) (fun r_25 x_26 => (if r_25 ≤ v3 then ff_MO_isLasting_58 n x_26 v0 v2 v3 0 (v5 + 1) else ff_MO_isLasting_58 n x_26 v0 v2 v3 1 (v5 + 1)))))))))
def ff_MO_isLasting  (x : St) (v0 : Nat) (v1 : Int32) : Option (Int32 × St) := bnd (ff_MO_get x v0 (49 + (2 * v1))) (fun r_1 x_2 => bnd (ff_MO_get x_2 v0 ((49 + (2 * v1)) + 1)) (fun r_4 x_5 => bnd (ff_MO_get x_5 v0 5) (fun r_7 x_8 => (if r_4 ≤ r_7 then bnd (ff_MO_get x_8 v0 5) (fun r_11 x_12 => ff_MO_isLasting_58 FU x_12 v0 r_1 r_11 1 0) else bnd (ff_MO_get x_8 v0 ((49 + (2 * v1)) + 1)) (fun r_29 x_30 => ff_MO_isLasting_58 FU x_30 v0 r_1 r_29 1 0)))))
set_option maxHeartbeats 4000000 in
set_option maxRecDepth 100000 in
theorem ww_MO_isLasting_58 {p : Program} {l : Launch} {e : Env} {s : State} {m : MethodId} {args : Array Value} {below : List Frame} {meth : Method} {c : Code} {E : Ev} {A : Nat → Prop} {ad : Nat → Nat} {r : Int32} {x' : St} (C0 : Cx E A RMO bb_MO_isLasting 6 (some .boolean) p s m args meth c) (hap : Ap ad ixM A)  : ∀ (n : Nat), ∀ (x : St) (v0 : Nat) (v2 : Int32) (v3 : Int32) (v4 : Int32) (v5 : Int32), (isO ixM v0 6) → ff_MO_isLasting_58 n x v0 v2 v3 v4 v5 = some (r, x') → ∀ (H : Heap) (locs : List Loc) (ls : Array Slot), Wd E ad ixM x H → va_S A s.heap H locs → lv_has ls 6 [(0, .ref (ad v0)), (2, .int v2), (3, .int v3), (4, .int v4), (5, .int v5)] → W p l e rm_MO_isLasting s m args below meth c H locs 0 0 (MQ below (QX E ad ixM A (some (.int r)) x') args s 0 0 A) (F0 m 58 ls []) := by
  obtain ⟨hx, hb, hml, hr, hown, hts, hlk, hK⟩ := id C0
  intro n
  induction n with
  | zero => intro x v0 v2 v3 v4 v5 ho_v0 hf; exact of_no hf
  | succ n ih =>
    intro x v0 v2 v3 v4 v5 ho_v0 hf H locs ls hP hS hl
    have hf : bnd (ff_MO_get x v0 1) (fun r_14 x_15 => (if r_14 ≤ v5 then (if zb v4 = true then some (v4, x_15) else none) else (if v4 = 0 then ff_MO_isLasting_58 n x_15 v0 v2 v3 0 (v5 + 1) else (if ((v2 >>> (v5 &&& 31)) &&& 1) = 0 then ff_MO_isLasting_58 n x_15 v0 v2 v3 1 (v5 + 1) else bnd (ff_MO_isBoiled x_15 v0 v5) (fun r_21 x_22 => (if r_21 = 0 then ff_MO_isLasting_58 n x_22 v0 v2 v3 0 (v5 + 1) else bnd (ff_MO_opensBy x_22 v0 v5) (fun r_25 x_26 => (if r_25 ≤ v3 then ff_MO_isLasting_58 n x_26 v0 v2 v3 0 (v5 + 1) else ff_MO_isLasting_58 n x_26 v0 v2 v3 1 (v5 + 1))))))))) = some (r, x') := hf
    refine lv_iload hx hb dd_MO_isLasting_58 (lv_at hl 4 rfl) ?_
    refine lv_aload_n hx hb dd_MO_isLasting_60 rfl (lv_at hl 0 rfl) ?_
    refine lv_iconst (v := 1) hx hb dd_MO_isLasting_61 (by decide) ?_
    obtain ⟨r_14, x_15, c_16, hf⟩ := of_bnd hf
    refine cl_MO_60 C0 hap ho_v0 c_16 hP hS ⟨Nat.le_of_ble_eq_true rfl, Nat.le_of_ble_eq_true rfl⟩ hl.1 (Nat.le_of_ble_eq_true rfl) dd_MO_isLasting_62 ⟨Nat.le_refl _, Nat.le_refl _⟩ (fun H locs hP hS => ?_)
    refine lv_icmp_ge (tgt := 114) hx hb dd_MO_isLasting_65 (by decide) (fun h_17 => ?_) (fun h_17 => ?_)
    · have hf := (if_pos h_17).symm.trans hf
      refine lv_iload hx hb dd_MO_isLasting_114 (lv_at hl 3 rfl) ?_
      obtain ⟨h_18, hf⟩ := of_ifb hf
      exact rrZ C0 hP hS (zb_or h_18) dd_MO_isLasting_116 hf
    · have hf := (if_neg h_17).symm.trans hf
      refine lv_iload hx hb dd_MO_isLasting_68 (lv_at hl 3 rfl) ?_
      refine lv_if_eq (tgt := 105) hx hb dd_MO_isLasting_70 (by decide) (fun h_19 => ?_) (fun h_19 => ?_)
      · have hf := (if_pos h_19).symm.trans hf
        refine lv_iconst (v := 0) hx hb dd_MO_isLasting_105 (by decide) ?_
        refine lv_istore (lv' := [(4, .int 0), (0, .ref (ad v0)), (2, .int v2), (3, .int v3), (5, .int v5)]) hx hb dd_MO_isLasting_106 hl (by decide) rfl (fun ls hl => ?_)
        refine lv_iinc (v := v5 + 1) (lv' := [(5, .int (v5 + 1)), (4, .int 0), (0, .ref (ad v0)), (2, .int v2), (3, .int v3)]) hx hb dd_MO_isLasting_108 hl (k := 4) rfl rfl (by decide) rfl (fun ls hl => ?_)
        refine lv_goto (tgt := 58) hx hb dd_MO_isLasting_111 (by decide) ?_
        exact ih x_15 v0 v2 v3 0 (v5 + 1) ho_v0 hf _ _ _ hP hS (lv_sub hl [2, 3, 4, 1, 0] rfl)
      · have hf := (if_neg h_19).symm.trans hf
        refine lv_iload_n hx hb dd_MO_isLasting_73 rfl (lv_at hl 1 rfl) ?_
        refine lv_iload hx hb dd_MO_isLasting_74 (lv_at hl 4 rfl) ?_
        refine lv_ishr hx hb dd_MO_isLasting_76 ?_
        refine lv_iconst (v := 1) hx hb dd_MO_isLasting_77 (by decide) ?_
        refine lv_iand hx hb dd_MO_isLasting_78 ?_
        refine lv_if_eq (tgt := 101) hx hb dd_MO_isLasting_79 (by decide) (fun h_20 => ?_) (fun h_20 => ?_)
        · have hf := (if_pos h_20).symm.trans hf
          refine lv_iconst (v := 1) hx hb dd_MO_isLasting_101 (by decide) ?_
          refine lv_goto (tgt := 106) hx hb dd_MO_isLasting_102 (by decide) ?_
          refine lv_istore (lv' := [(4, .int 1), (0, .ref (ad v0)), (2, .int v2), (3, .int v3), (5, .int v5)]) hx hb dd_MO_isLasting_106 hl (by decide) rfl (fun ls hl => ?_)
          refine lv_iinc (v := v5 + 1) (lv' := [(5, .int (v5 + 1)), (4, .int 1), (0, .ref (ad v0)), (2, .int v2), (3, .int v3)]) hx hb dd_MO_isLasting_108 hl (k := 4) rfl rfl (by decide) rfl (fun ls hl => ?_)
          refine lv_goto (tgt := 58) hx hb dd_MO_isLasting_111 (by decide) ?_
          exact ih x_15 v0 v2 v3 1 (v5 + 1) ho_v0 hf _ _ _ hP hS (lv_sub hl [2, 3, 4, 1, 0] rfl)
        · have hf := (if_neg h_20).symm.trans hf
          refine lv_aload_n hx hb dd_MO_isLasting_82 rfl (lv_at hl 0 rfl) ?_
          refine lv_iload hx hb dd_MO_isLasting_83 (lv_at hl 4 rfl) ?_
          obtain ⟨r_21, x_22, c_23, hf⟩ := of_bnd hf
          refine cl_MO_198 C0 hap ho_v0 c_23 hP hS ⟨Nat.le_of_ble_eq_true rfl, Nat.le_of_ble_eq_true rfl⟩ hl.1 (Nat.le_of_ble_eq_true rfl) dd_MO_isLasting_85 ⟨Nat.le_refl _, Nat.le_refl _⟩ (fun H locs hP hS => ?_)
          refine lv_if_eq (tgt := 105) hx hb dd_MO_isLasting_88 (by decide) (fun h_24 => ?_) (fun h_24 => ?_)
          · have hf := (if_pos h_24).symm.trans hf
            refine lv_iconst (v := 0) hx hb dd_MO_isLasting_105 (by decide) ?_
            refine lv_istore (lv' := [(4, .int 0), (0, .ref (ad v0)), (2, .int v2), (3, .int v3), (5, .int v5)]) hx hb dd_MO_isLasting_106 hl (by decide) rfl (fun ls hl => ?_)
            refine lv_iinc (v := v5 + 1) (lv' := [(5, .int (v5 + 1)), (4, .int 0), (0, .ref (ad v0)), (2, .int v2), (3, .int v3)]) hx hb dd_MO_isLasting_108 hl (k := 4) rfl rfl (by decide) rfl (fun ls hl => ?_)
            refine lv_goto (tgt := 58) hx hb dd_MO_isLasting_111 (by decide) ?_
            exact ih x_22 v0 v2 v3 0 (v5 + 1) ho_v0 hf _ _ _ hP hS (lv_sub hl [2, 3, 4, 1, 0] rfl)
          · have hf := (if_neg h_24).symm.trans hf
            refine lv_aload_n hx hb dd_MO_isLasting_91 rfl (lv_at hl 0 rfl) ?_
            refine lv_iload hx hb dd_MO_isLasting_92 (lv_at hl 4 rfl) ?_
            obtain ⟨r_25, x_26, c_27, hf⟩ := of_bnd hf
            refine cl_MO_195 C0 hap ho_v0 c_27 hP hS ⟨Nat.le_of_ble_eq_true rfl, Nat.le_of_ble_eq_true rfl⟩ hl.1 (Nat.le_of_ble_eq_true rfl) dd_MO_isLasting_94 ⟨Nat.le_refl _, Nat.le_refl _⟩ (fun H locs hP hS => ?_)
            refine lv_iload_n hx hb dd_MO_isLasting_97 rfl (lv_at hl 2 rfl) ?_
            refine lv_icmp_le (tgt := 105) hx hb dd_MO_isLasting_98 (by decide) (fun h_28 => ?_) (fun h_28 => ?_)
            · have hf := (if_pos h_28).symm.trans hf
              refine lv_iconst (v := 0) hx hb dd_MO_isLasting_105 (by decide) ?_
              refine lv_istore (lv' := [(4, .int 0), (0, .ref (ad v0)), (2, .int v2), (3, .int v3), (5, .int v5)]) hx hb dd_MO_isLasting_106 hl (by decide) rfl (fun ls hl => ?_)
              refine lv_iinc (v := v5 + 1) (lv' := [(5, .int (v5 + 1)), (4, .int 0), (0, .ref (ad v0)), (2, .int v2), (3, .int v3)]) hx hb dd_MO_isLasting_108 hl (k := 4) rfl rfl (by decide) rfl (fun ls hl => ?_)
              refine lv_goto (tgt := 58) hx hb dd_MO_isLasting_111 (by decide) ?_
              exact ih x_26 v0 v2 v3 0 (v5 + 1) ho_v0 hf _ _ _ hP hS (lv_sub hl [2, 3, 4, 1, 0] rfl)
            · have hf := (if_neg h_28).symm.trans hf
              refine lv_iconst (v := 1) hx hb dd_MO_isLasting_101 (by decide) ?_
              refine lv_goto (tgt := 106) hx hb dd_MO_isLasting_102 (by decide) ?_
              refine lv_istore (lv' := [(4, .int 1), (0, .ref (ad v0)), (2, .int v2), (3, .int v3), (5, .int v5)]) hx hb dd_MO_isLasting_106 hl (by decide) rfl (fun ls hl => ?_)
              refine lv_iinc (v := v5 + 1) (lv' := [(5, .int (v5 + 1)), (4, .int 1), (0, .ref (ad v0)), (2, .int v2), (3, .int v3)]) hx hb dd_MO_isLasting_108 hl (k := 4) rfl rfl (by decide) rfl (fun ls hl => ?_)
              refine lv_goto (tgt := 58) hx hb dd_MO_isLasting_111 (by decide) ?_
              exact ih x_26 v0 v2 v3 1 (v5 + 1) ho_v0 hf _ _ _ hP hS (lv_sub hl [2, 3, 4, 1, 0] rfl)
set_option maxHeartbeats 4000000 in
set_option maxRecDepth 100000 in
theorem ww_MO_isLasting {p : Program} {l : Launch} {e : Env} {s : State} {m : MethodId} {args : Array Value} {below : List Frame} {meth : Method} {c : Code} {E : Ev} {A : Nat → Prop} {ad : Nat → Nat} {r : Int32} {x' : St} (C0 : Cx E A RMO bb_MO_isLasting 6 (some .boolean) p s m args meth c) (hap : Ap ad ixM A)  {x : St} {v0 : Nat} {v1 : Int32} (ho_v0 : isO ixM v0 6) (hf : ff_MO_isLasting x v0 v1 = some (r, x')) {H : Heap} {locs : List Loc} {ls : Array Slot} (hP : Wd E ad ixM x H) (hS : va_S A s.heap H locs) (hl : lv_has ls 6 [(0, .ref (ad v0)), (1, .int v1)]) : W p l e rm_MO_isLasting s m args below meth c H locs 0 0 (MQ below (QX E ad ixM A (some (.int r)) x') args s 0 0 A) (F0 m 0 ls []) := by
  obtain ⟨hx, hb, hml, hr, hown, hts, hlk, hK⟩ := id C0
  have hf : bnd (ff_MO_get x v0 (49 + (2 * v1))) (fun r_1 x_2 => bnd (ff_MO_get x_2 v0 ((49 + (2 * v1)) + 1)) (fun r_4 x_5 => bnd (ff_MO_get x_5 v0 5) (fun r_7 x_8 => (if r_4 ≤ r_7 then bnd (ff_MO_get x_8 v0 5) (fun r_11 x_12 => ff_MO_isLasting_58 FU x_12 v0 r_1 r_11 1 0) else bnd (ff_MO_get x_8 v0 ((49 + (2 * v1)) + 1)) (fun r_29 x_30 => ff_MO_isLasting_58 FU x_30 v0 r_1 r_29 1 0))))) = some (r, x') := hf
  refine lv_aload_n hx hb dd_MO_isLasting_0 rfl (lv_at hl 0 rfl) ?_
  refine lv_bipush (v := 49) hx hb dd_MO_isLasting_1 (by decide) ?_
  refine lv_iconst (v := 2) hx hb dd_MO_isLasting_3 (by decide) ?_
  refine lv_iload_n hx hb dd_MO_isLasting_4 rfl (lv_at hl 1 rfl) ?_
  refine lv_imul hx hb dd_MO_isLasting_5 ?_
  refine lv_iadd hx hb dd_MO_isLasting_6 ?_
  obtain ⟨r_1, x_2, c_3, hf⟩ := of_bnd hf
  refine cl_MO_60 C0 hap ho_v0 c_3 hP hS ⟨Nat.le_of_ble_eq_true rfl, Nat.le_of_ble_eq_true rfl⟩ hl.1 (Nat.le_of_ble_eq_true rfl) dd_MO_isLasting_7 ⟨Nat.le_refl _, Nat.le_refl _⟩ (fun H locs hP hS => ?_)
  refine lv_istore_n (lv' := [(2, .int r_1), (0, .ref (ad v0)), (1, .int v1)]) hx hb dd_MO_isLasting_10 rfl hl (by decide) rfl (fun ls hl => ?_)
  refine lv_aload_n hx hb dd_MO_isLasting_11 rfl (lv_at hl 1 rfl) ?_
  refine lv_bipush (v := 49) hx hb dd_MO_isLasting_12 (by decide) ?_
  refine lv_iconst (v := 2) hx hb dd_MO_isLasting_14 (by decide) ?_
  refine lv_iload_n hx hb dd_MO_isLasting_15 rfl (lv_at hl 2 rfl) ?_
  refine lv_imul hx hb dd_MO_isLasting_16 ?_
  refine lv_iadd hx hb dd_MO_isLasting_17 ?_
  refine lv_iconst (v := 1) hx hb dd_MO_isLasting_18 (by decide) ?_
  refine lv_iadd hx hb dd_MO_isLasting_19 ?_
  obtain ⟨r_4, x_5, c_6, hf⟩ := of_bnd hf
  refine cl_MO_60 C0 hap ho_v0 c_6 hP hS ⟨Nat.le_of_ble_eq_true rfl, Nat.le_of_ble_eq_true rfl⟩ hl.1 (Nat.le_of_ble_eq_true rfl) dd_MO_isLasting_20 ⟨Nat.le_refl _, Nat.le_refl _⟩ (fun H locs hP hS => ?_)
  refine lv_aload_n hx hb dd_MO_isLasting_23 rfl (lv_at hl 1 rfl) ?_
  refine lv_iconst (v := 5) hx hb dd_MO_isLasting_24 (by decide) ?_
  obtain ⟨r_7, x_8, c_9, hf⟩ := of_bnd hf
  refine cl_MO_60 C0 hap ho_v0 c_9 hP hS ⟨Nat.le_of_ble_eq_true rfl, Nat.le_of_ble_eq_true rfl⟩ hl.1 (Nat.le_of_ble_eq_true rfl) dd_MO_isLasting_25 ⟨Nat.le_refl _, Nat.le_refl _⟩ (fun H locs hP hS => ?_)
  refine lv_icmp_le (tgt := 46) hx hb dd_MO_isLasting_28 (by decide) (fun h_10 => ?_) (fun h_10 => ?_)
  · have hf := (if_pos h_10).symm.trans hf
    refine lv_aload_n hx hb dd_MO_isLasting_46 rfl (lv_at hl 1 rfl) ?_
    refine lv_iconst (v := 5) hx hb dd_MO_isLasting_47 (by decide) ?_
    obtain ⟨r_11, x_12, c_13, hf⟩ := of_bnd hf
    refine cl_MO_60 C0 hap ho_v0 c_13 hP hS ⟨Nat.le_of_ble_eq_true rfl, Nat.le_of_ble_eq_true rfl⟩ hl.1 (Nat.le_of_ble_eq_true rfl) dd_MO_isLasting_48 ⟨Nat.le_refl _, Nat.le_refl _⟩ (fun H locs hP hS => ?_)
    refine lv_istore_n (lv' := [(3, .int r_11), (2, .int r_1), (0, .ref (ad v0)), (1, .int v1)]) hx hb dd_MO_isLasting_51 rfl hl (by decide) rfl (fun ls hl => ?_)
    refine lv_iconst (v := 1) hx hb dd_MO_isLasting_52 (by decide) ?_
    refine lv_istore (lv' := [(4, .int 1), (3, .int r_11), (2, .int r_1), (0, .ref (ad v0)), (1, .int v1)]) hx hb dd_MO_isLasting_53 hl (by decide) rfl (fun ls hl => ?_)
    refine lv_iconst (v := 0) hx hb dd_MO_isLasting_55 (by decide) ?_
    refine lv_istore (lv' := [(5, .int 0), (4, .int 1), (3, .int r_11), (2, .int r_1), (0, .ref (ad v0)), (1, .int v1)]) hx hb dd_MO_isLasting_56 hl (by decide) rfl (fun ls hl => ?_)
    exact ww_MO_isLasting_58 C0 hap  FU x_12 v0 r_1 r_11 1 0 ho_v0 hf _ _ _ hP hS (lv_sub hl [4, 3, 2, 1, 0] rfl)
  · have hf := (if_neg h_10).symm.trans hf
    refine lv_aload_n hx hb dd_MO_isLasting_31 rfl (lv_at hl 1 rfl) ?_
    refine lv_bipush (v := 49) hx hb dd_MO_isLasting_32 (by decide) ?_
    refine lv_iconst (v := 2) hx hb dd_MO_isLasting_34 (by decide) ?_
    refine lv_iload_n hx hb dd_MO_isLasting_35 rfl (lv_at hl 2 rfl) ?_
    refine lv_imul hx hb dd_MO_isLasting_36 ?_
    refine lv_iadd hx hb dd_MO_isLasting_37 ?_
    refine lv_iconst (v := 1) hx hb dd_MO_isLasting_38 (by decide) ?_
    refine lv_iadd hx hb dd_MO_isLasting_39 ?_
    obtain ⟨r_29, x_30, c_31, hf⟩ := of_bnd hf
    refine cl_MO_60 C0 hap ho_v0 c_31 hP hS ⟨Nat.le_of_ble_eq_true rfl, Nat.le_of_ble_eq_true rfl⟩ hl.1 (Nat.le_of_ble_eq_true rfl) dd_MO_isLasting_40 ⟨Nat.le_refl _, Nat.le_refl _⟩ (fun H locs hP hS => ?_)
    refine lv_goto (tgt := 51) hx hb dd_MO_isLasting_43 (by decide) ?_
    refine lv_istore_n (lv' := [(3, .int r_29), (2, .int r_1), (0, .ref (ad v0)), (1, .int v1)]) hx hb dd_MO_isLasting_51 rfl hl (by decide) rfl (fun ls hl => ?_)
    refine lv_iconst (v := 1) hx hb dd_MO_isLasting_52 (by decide) ?_
    refine lv_istore (lv' := [(4, .int 1), (3, .int r_29), (2, .int r_1), (0, .ref (ad v0)), (1, .int v1)]) hx hb dd_MO_isLasting_53 hl (by decide) rfl (fun ls hl => ?_)
    refine lv_iconst (v := 0) hx hb dd_MO_isLasting_55 (by decide) ?_
    refine lv_istore (lv' := [(5, .int 0), (4, .int 1), (3, .int r_29), (2, .int r_1), (0, .ref (ad v0)), (1, .int v1)]) hx hb dd_MO_isLasting_56 hl (by decide) rfl (fun ls hl => ?_)
    exact ww_MO_isLasting_58 C0 hap  FU x_30 v0 r_1 r_29 1 0 ho_v0 hf _ _ _ hP hS (lv_sub hl [4, 3, 2, 1, 0] rfl)
theorem cc_MO_isLasting {l : Launch} {E : Ev} {A : Nat → Prop} {ad : Nat → Nat} (hap : Ap ad ixM A) {x x' : St} {v0 : Nat} {v1 : Int32} {r : Int32} (ho_v0 : isO ixM v0 6) (hf : ff_MO_isLasting x v0 v1 = some (r, x')) : Met l yy_MO_isLasting (Cond.code yy_MO_isLasting bb_MO_isLasting 6 (some .boolean) :: gtb) rm_MO_isLasting (va_Pc [.ref (ad v0), .int v1] (PB E A ad ixM x)) (QX E ad ixM A (some (.int r)) x') 0 0 A := by
  exact enter (by decide) (Nat.le_of_ble_eq_true rfl) (fun p e s m below meth c ls C0 hP hS hl => ww_MO_isLasting C0 hap ho_v0 hf hP hS hl)
theorem cl_MO_201 {p : Program} {l : Launch} {e : Env} {R : Room} {s : State} {m : MethodId} {args : Array Value} {below : List Frame} {meth : Method} {c : Code} {H : Heap} {locs : List Loc} {cells slots : Nat} {Q : State → Prop} {cc : ByteArray} {pc : Nat} {ls : Array Slot} {rest : List Value} {E : Ev} {A : Nat → Prop} {ad : Nat → Nat} {nL : Nat} {rt : Option FieldType} (C0 : Cx E A RMO cc nL rt p s m args meth c) (hap : Ap ad ixM A) {x x' : St} {v0 : Nat} {v1 : Int32} {r : Int32} (ho_v0 : isO ixM v0 6) (hc : ff_MO_isLasting x v0 v1 = some (r, x')) (hP : Wd E ad ixM x H) (hS : va_S A s.heap H locs) (hR : rm_MO_isLasting.frames + 1 ≤ R.frames ∧ 8 + (6 + 11) + rm_MO_isLasting.locals ≤ R.locals) (hls : ls.size = nL) (hroom : (rest.map fun v => v.category).sum ≤ 8) (hdg : decode cc pc = .ok (.invokevirtual 201, 3)) (hf : cells ≤ R.cells ∧ slots ≤ R.slots) (kk : ∀ H1 locs1, Wd E ad ixM x' H1 → va_S A s.heap H1 locs1 → W p l e R s m args below meth c H1 locs1 cells slots Q (F0 m (pc + 3) ls (.int r :: rest))) : W p l e R s m args below meth c H locs cells slots Q (F0 m pc ls (.int v1 :: .ref (ad v0) :: rest)) :=
  rcV (n := 1) C0 (cc_MO_isLasting hap ho_v0 hc) hP hS ho_v0 vcl_6 (by decide) gw_code_MO_isLasting gw_m_MO_201 gw_inst_MO_isLasting gw_sel_MO_isLasting gw_ini_MO rfl rfl (by decide +kernel) rfl hR hls rfl hroom hdg hf (fun H1 locs1 a _ _ b => kk H1 locs1 a b)
abbrev rm_MO_lasts : Room := { frames := 5, cells := 0, slots := 0, locals := 113 }
theorem dd_MO_lasts_0 : decode bb_MO_lasts 0 = .ok (.iload_n 1, 1) := by decide +kernel
theorem dd_MO_lasts_1 : decode bb_MO_lasts 1 = .ok (.iconst 0, 1) := by decide +kernel
theorem dd_MO_lasts_2 : decode bb_MO_lasts 2 = .ok (.aload_n 0, 1) := by decide +kernel
theorem dd_MO_lasts_3 : decode bb_MO_lasts 3 = .ok (.iconst 2, 1) := by decide +kernel
theorem dd_MO_lasts_4 : decode bb_MO_lasts 4 = .ok (.invokevirtual 60, 3) := by decide +kernel
theorem dd_MO_lasts_7 : decode bb_MO_lasts 7 = .ok (.iconst 1, 1) := by decide +kernel
theorem dd_MO_lasts_8 : decode bb_MO_lasts 8 = .ok (.isub, 1) := by decide +kernel
theorem dd_MO_lasts_9 : decode bb_MO_lasts 9 = .ok (.invokestatic 64, 3) := by decide +kernel
theorem dd_MO_lasts_12 : decode bb_MO_lasts 12 = .ok (.ifCond .ne 8, 3) := by decide +kernel
theorem dd_MO_lasts_15 : decode bb_MO_lasts 15 = .ok (.aload_n 0, 1) := by decide +kernel
theorem dd_MO_lasts_16 : decode bb_MO_lasts 16 = .ok (.invokevirtual 72, 3) := by decide +kernel
theorem dd_MO_lasts_19 : decode bb_MO_lasts 19 = .ok (.ireturn, 1) := by decide +kernel
theorem dd_MO_lasts_20 : decode bb_MO_lasts 20 = .ok (.aload_n 0, 1) := by decide +kernel
theorem dd_MO_lasts_21 : decode bb_MO_lasts 21 = .ok (.iconst (-1), 1) := by decide +kernel
theorem dd_MO_lasts_22 : decode bb_MO_lasts 22 = .ok (.invokevirtual 189, 3) := by decide +kernel
theorem dd_MO_lasts_25 : decode bb_MO_lasts 25 = .ok (.aload_n 0, 1) := by decide +kernel
theorem dd_MO_lasts_26 : decode bb_MO_lasts 26 = .ok (.iload_n 1, 1) := by decide +kernel
theorem dd_MO_lasts_27 : decode bb_MO_lasts 27 = .ok (.invokevirtual 201, 3) := by decide +kernel
theorem dd_MO_lasts_30 : decode bb_MO_lasts 30 = .ok (.ifCond .eq 7, 3) := by decide +kernel
theorem dd_MO_lasts_33 : decode bb_MO_lasts 33 = .ok (.iconst 1, 1) := by decide +kernel
theorem dd_MO_lasts_34 : decode bb_MO_lasts 34 = .ok (.goto 4, 3) := by decide +kernel
theorem dd_MO_lasts_37 : decode bb_MO_lasts 37 = .ok (.iconst 0, 1) := by decide +kernel
theorem dd_MO_lasts_38 : decode bb_MO_lasts 38 = .ok (.ireturn, 1) := by decide +kernel
def ff_MO_lasts  (x : St) (v0 : Nat) (v1 : Int32) : Option (Int32 × St) := bnd (ff_MO_get x v0 2) (fun r_1 x_2 => bnd (ff_MO_in x_2 v1 0 (r_1 - 1)) (fun r_4 x_5 => (if r_4 = 0 then bnd (ff_MO_bad x_5 v0) (fun r_15 x_16 => some (r_15, x_16)) else bnd (ff_MO_findGriefs x_5 v0 (-1)) (fun _ x_9 => bnd (ff_MO_isLasting x_9 v0 v1) (fun r_11 x_12 => (if r_11 = 0 then some (0, x_12) else some (1, x_12)))))))
set_option maxHeartbeats 4000000 in
set_option maxRecDepth 100000 in
theorem ww_MO_lasts {p : Program} {l : Launch} {e : Env} {s : State} {m : MethodId} {args : Array Value} {below : List Frame} {meth : Method} {c : Code} {E : Ev} {A : Nat → Prop} {ad : Nat → Nat} {r : Int32} {x' : St} (C0 : Cx E A RMO bb_MO_lasts 2 (some .int) p s m args meth c) (hap : Ap ad ixM A)  {x : St} {v0 : Nat} {v1 : Int32} (ho_v0 : isO ixM v0 6) (hf : ff_MO_lasts x v0 v1 = some (r, x')) {H : Heap} {locs : List Loc} {ls : Array Slot} (hP : Wd E ad ixM x H) (hS : va_S A s.heap H locs) (hl : lv_has ls 2 [(0, .ref (ad v0)), (1, .int v1)]) : W p l e rm_MO_lasts s m args below meth c H locs 0 0 (MQ below (QX E ad ixM A (some (.int r)) x') args s 0 0 A) (F0 m 0 ls []) := by
  obtain ⟨hx, hb, hml, hr, hown, hts, hlk, hK⟩ := id C0
  have hf : bnd (ff_MO_get x v0 2) (fun r_1 x_2 => bnd (ff_MO_in x_2 v1 0 (r_1 - 1)) (fun r_4 x_5 => (if r_4 = 0 then bnd (ff_MO_bad x_5 v0) (fun r_15 x_16 => some (r_15, x_16)) else bnd (ff_MO_findGriefs x_5 v0 (-1)) (fun _ x_9 => bnd (ff_MO_isLasting x_9 v0 v1) (fun r_11 x_12 => (if r_11 = 0 then some (0, x_12) else some (1, x_12))))))) = some (r, x') := hf
  refine lv_iload_n hx hb dd_MO_lasts_0 rfl (lv_at hl 1 rfl) ?_
  refine lv_iconst (v := 0) hx hb dd_MO_lasts_1 (by decide) ?_
  refine lv_aload_n hx hb dd_MO_lasts_2 rfl (lv_at hl 0 rfl) ?_
  refine lv_iconst (v := 2) hx hb dd_MO_lasts_3 (by decide) ?_
  obtain ⟨r_1, x_2, c_3, hf⟩ := of_bnd hf
  refine cl_MO_60 C0 hap ho_v0 c_3 hP hS ⟨Nat.le_of_ble_eq_true rfl, Nat.le_of_ble_eq_true rfl⟩ hl.1 (Nat.le_of_ble_eq_true rfl) dd_MO_lasts_4 ⟨Nat.le_refl _, Nat.le_refl _⟩ (fun H locs hP hS => ?_)
  refine lv_iconst (v := 1) hx hb dd_MO_lasts_7 (by decide) ?_
  refine lv_isub hx hb dd_MO_lasts_8 ?_
  obtain ⟨r_4, x_5, c_6, hf⟩ := of_bnd hf
  refine cl_MO_64 C0 hap  c_6 hP hS ⟨Nat.le_of_ble_eq_true rfl, Nat.le_of_ble_eq_true rfl⟩ hl.1 (Nat.le_of_ble_eq_true rfl) dd_MO_lasts_9 ⟨Nat.le_refl _, Nat.le_refl _⟩ (fun H locs hP hS => ?_)
  refine lv_if_ne (tgt := 20) hx hb dd_MO_lasts_12 (by decide) (fun h_7 => ?_) (fun h_7 => ?_)
  · have hf := (if_neg h_7).symm.trans hf
    refine lv_aload_n hx hb dd_MO_lasts_20 rfl (lv_at hl 0 rfl) ?_
    refine lv_iconst (v := -1) hx hb dd_MO_lasts_21 (by decide) ?_
    obtain ⟨_, x_9, c_10, hf⟩ := of_bnd hf
    refine cl_MO_189 C0 hap ho_v0 c_10 hP hS ⟨Nat.le_of_ble_eq_true rfl, Nat.le_of_ble_eq_true rfl⟩ hl.1 (Nat.le_of_ble_eq_true rfl) dd_MO_lasts_22 ⟨Nat.le_refl _, Nat.le_refl _⟩ (fun H locs hP hS => ?_)
    refine lv_aload_n hx hb dd_MO_lasts_25 rfl (lv_at hl 0 rfl) ?_
    refine lv_iload_n hx hb dd_MO_lasts_26 rfl (lv_at hl 1 rfl) ?_
    obtain ⟨r_11, x_12, c_13, hf⟩ := of_bnd hf
    refine cl_MO_201 C0 hap ho_v0 c_13 hP hS ⟨Nat.le_of_ble_eq_true rfl, Nat.le_of_ble_eq_true rfl⟩ hl.1 (Nat.le_of_ble_eq_true rfl) dd_MO_lasts_27 ⟨Nat.le_refl _, Nat.le_refl _⟩ (fun H locs hP hS => ?_)
    refine lv_if_eq (tgt := 37) hx hb dd_MO_lasts_30 (by decide) (fun h_14 => ?_) (fun h_14 => ?_)
    · have hf := (if_pos h_14).symm.trans hf
      refine lv_iconst (v := 0) hx hb dd_MO_lasts_37 (by decide) ?_
      exact rrI C0 hP hS dd_MO_lasts_38 hf
    · have hf := (if_neg h_14).symm.trans hf
      refine lv_iconst (v := 1) hx hb dd_MO_lasts_33 (by decide) ?_
      refine lv_goto (tgt := 38) hx hb dd_MO_lasts_34 (by decide) ?_
      exact rrI C0 hP hS dd_MO_lasts_38 hf
  · have hf := (if_pos h_7).symm.trans hf
    refine lv_aload_n hx hb dd_MO_lasts_15 rfl (lv_at hl 0 rfl) ?_
    obtain ⟨r_15, x_16, c_17, hf⟩ := of_bnd hf
    refine cl_MO_72 C0 hap ho_v0 c_17 hP hS ⟨Nat.le_of_ble_eq_true rfl, Nat.le_of_ble_eq_true rfl⟩ hl.1 (Nat.le_of_ble_eq_true rfl) dd_MO_lasts_16 ⟨Nat.le_refl _, Nat.le_refl _⟩ (fun H locs hP hS => ?_)
    exact rrI C0 hP hS dd_MO_lasts_19 hf
theorem cc_MO_lasts {l : Launch} {E : Ev} {A : Nat → Prop} {ad : Nat → Nat} (hap : Ap ad ixM A) {x x' : St} {v0 : Nat} {v1 : Int32} {r : Int32} (ho_v0 : isO ixM v0 6) (hf : ff_MO_lasts x v0 v1 = some (r, x')) : Met l yy_MO_lasts (Cond.code yy_MO_lasts bb_MO_lasts 2 (some .int) :: gtb) rm_MO_lasts (va_Pc [.ref (ad v0), .int v1] (PB E A ad ixM x)) (QX E ad ixM A (some (.int r)) x') 0 0 A := by
  exact enter (by decide) (Nat.le_of_ble_eq_true rfl) (fun p e s m below meth c ls C0 hP hS hl => ww_MO_lasts C0 hap ho_v0 hf hP hS hl)
abbrev rm_MO_open : Room := { frames := 6, cells := 0, slots := 0, locals := 135 }
theorem dd_MO_open_0 : decode bb_MO_open 0 = .ok (.aload_n 0, 1) := by decide +kernel
theorem dd_MO_open_1 : decode bb_MO_open 1 = .ok (.invokevirtual 115, 3) := by decide +kernel
theorem dd_MO_open_4 : decode bb_MO_open 4 = .ok (.ireturn, 1) := by decide +kernel
def ff_MO_open  (x : St) (v0 : Nat) : Option (Int32 × St) := bnd (ff_MO_openNow x v0) (fun r_1 x_2 => some (r_1, x_2))
set_option maxHeartbeats 4000000 in
set_option maxRecDepth 100000 in
theorem ww_MO_open {p : Program} {l : Launch} {e : Env} {s : State} {m : MethodId} {args : Array Value} {below : List Frame} {meth : Method} {c : Code} {E : Ev} {A : Nat → Prop} {ad : Nat → Nat} {r : Int32} {x' : St} (C0 : Cx E A RMO bb_MO_open 1 (some .int) p s m args meth c) (hap : Ap ad ixM A)  {x : St} {v0 : Nat} (ho_v0 : isO ixM v0 6) (hf : ff_MO_open x v0 = some (r, x')) {H : Heap} {locs : List Loc} {ls : Array Slot} (hP : Wd E ad ixM x H) (hS : va_S A s.heap H locs) (hl : lv_has ls 1 [(0, .ref (ad v0))]) : W p l e rm_MO_open s m args below meth c H locs 0 0 (MQ below (QX E ad ixM A (some (.int r)) x') args s 0 0 A) (F0 m 0 ls []) := by
  obtain ⟨hx, hb, hml, hr, hown, hts, hlk, hK⟩ := id C0
  have hf : bnd (ff_MO_openNow x v0) (fun r_1 x_2 => some (r_1, x_2)) = some (r, x') := hf
  refine lv_aload_n hx hb dd_MO_open_0 rfl (lv_at hl 0 rfl) ?_
  obtain ⟨r_1, x_2, c_3, hf⟩ := of_bnd hf
  refine cl_MO_115 C0 hap ho_v0 c_3 hP hS ⟨Nat.le_of_ble_eq_true rfl, Nat.le_of_ble_eq_true rfl⟩ hl.1 (Nat.le_of_ble_eq_true rfl) dd_MO_open_1 ⟨Nat.le_refl _, Nat.le_refl _⟩ (fun H locs hP hS => ?_)
  exact rrI C0 hP hS dd_MO_open_4 hf
theorem cc_MO_open {l : Launch} {E : Ev} {A : Nat → Prop} {ad : Nat → Nat} (hap : Ap ad ixM A) {x x' : St} {v0 : Nat} {r : Int32} (ho_v0 : isO ixM v0 6) (hf : ff_MO_open x v0 = some (r, x')) : Met l yy_MO_open (Cond.code yy_MO_open bb_MO_open 1 (some .int) :: gtb) rm_MO_open (va_Pc [.ref (ad v0)] (PB E A ad ixM x)) (QX E ad ixM A (some (.int r)) x') 0 0 A := by
  exact enter (by decide) (Nat.le_of_ble_eq_true rfl) (fun p e s m below meth c ls C0 hP hS hl => ww_MO_open C0 hap ho_v0 hf hP hS hl)
abbrev rm_MO_findNeeds : Room := { frames := 5, cells := 0, slots := 0, locals := 113 }
theorem dd_MO_findNeeds_0 : decode bb_MO_findNeeds 0 = .ok (.aload_n 0, 1) := by decide +kernel
theorem dd_MO_findNeeds_1 : decode bb_MO_findNeeds 1 = .ok (.iconst (-1), 1) := by decide +kernel
theorem dd_MO_findNeeds_2 : decode bb_MO_findNeeds 2 = .ok (.invokevirtual 189, 3) := by decide +kernel
theorem dd_MO_findNeeds_5 : decode bb_MO_findNeeds 5 = .ok (.iconst 0, 1) := by decide +kernel
theorem dd_MO_findNeeds_6 : decode bb_MO_findNeeds 6 = .ok (.istore_n 1, 1) := by decide +kernel
theorem dd_MO_findNeeds_7 : decode bb_MO_findNeeds 7 = .ok (.iload_n 1, 1) := by decide +kernel
theorem dd_MO_findNeeds_8 : decode bb_MO_findNeeds 8 = .ok (.bipush 6, 2) := by decide +kernel
theorem dd_MO_findNeeds_10 : decode bb_MO_findNeeds 10 = .ok (.if_icmp .ge 16, 3) := by decide +kernel
theorem dd_MO_findNeeds_13 : decode bb_MO_findNeeds 13 = .ok (.aload_n 0, 1) := by decide +kernel
theorem dd_MO_findNeeds_14 : decode bb_MO_findNeeds 14 = .ok (.getfield 31, 3) := by decide +kernel
theorem dd_MO_findNeeds_17 : decode bb_MO_findNeeds 17 = .ok (.iload_n 1, 1) := by decide +kernel
theorem dd_MO_findNeeds_18 : decode bb_MO_findNeeds 18 = .ok (.iconst (-1), 1) := by decide +kernel
theorem dd_MO_findNeeds_19 : decode bb_MO_findNeeds 19 = .ok (.iastore, 1) := by decide +kernel
theorem dd_MO_findNeeds_20 : decode bb_MO_findNeeds 20 = .ok (.iinc 1 1, 3) := by decide +kernel
theorem dd_MO_findNeeds_23 : decode bb_MO_findNeeds 23 = .ok (.goto (-16), 3) := by decide +kernel
theorem dd_MO_findNeeds_26 : decode bb_MO_findNeeds 26 = .ok (.iconst 0, 1) := by decide +kernel
theorem dd_MO_findNeeds_27 : decode bb_MO_findNeeds 27 = .ok (.istore_n 1, 1) := by decide +kernel
theorem dd_MO_findNeeds_28 : decode bb_MO_findNeeds 28 = .ok (.iload_n 1, 1) := by decide +kernel
theorem dd_MO_findNeeds_29 : decode bb_MO_findNeeds 29 = .ok (.aload_n 0, 1) := by decide +kernel
theorem dd_MO_findNeeds_30 : decode bb_MO_findNeeds 30 = .ok (.iconst 2, 1) := by decide +kernel
theorem dd_MO_findNeeds_31 : decode bb_MO_findNeeds 31 = .ok (.invokevirtual 60, 3) := by decide +kernel
theorem dd_MO_findNeeds_34 : decode bb_MO_findNeeds 34 = .ok (.if_icmp .ge 119, 3) := by decide +kernel
theorem dd_MO_findNeeds_37 : decode bb_MO_findNeeds 37 = .ok (.aload_n 0, 1) := by decide +kernel
theorem dd_MO_findNeeds_38 : decode bb_MO_findNeeds 38 = .ok (.iload_n 1, 1) := by decide +kernel
theorem dd_MO_findNeeds_39 : decode bb_MO_findNeeds 39 = .ok (.invokevirtual 201, 3) := by decide +kernel
theorem dd_MO_findNeeds_42 : decode bb_MO_findNeeds 42 = .ok (.ifCond .ne 105, 3) := by decide +kernel
theorem dd_MO_findNeeds_45 : decode bb_MO_findNeeds 45 = .ok (.iconst 0, 1) := by decide +kernel
theorem dd_MO_findNeeds_46 : decode bb_MO_findNeeds 46 = .ok (.istore_n 2, 1) := by decide +kernel
theorem dd_MO_findNeeds_47 : decode bb_MO_findNeeds 47 = .ok (.iload_n 2, 1) := by decide +kernel
theorem dd_MO_findNeeds_48 : decode bb_MO_findNeeds 48 = .ok (.aload_n 0, 1) := by decide +kernel
theorem dd_MO_findNeeds_49 : decode bb_MO_findNeeds 49 = .ok (.iconst 1, 1) := by decide +kernel
theorem dd_MO_findNeeds_50 : decode bb_MO_findNeeds 50 = .ok (.invokevirtual 60, 3) := by decide +kernel
theorem dd_MO_findNeeds_53 : decode bb_MO_findNeeds 53 = .ok (.if_icmp .ge 94, 3) := by decide +kernel
theorem dd_MO_findNeeds_56 : decode bb_MO_findNeeds 56 = .ok (.aload_n 0, 1) := by decide +kernel
theorem dd_MO_findNeeds_57 : decode bb_MO_findNeeds 57 = .ok (.bipush 49, 2) := by decide +kernel
theorem dd_MO_findNeeds_59 : decode bb_MO_findNeeds 59 = .ok (.iconst 2, 1) := by decide +kernel
theorem dd_MO_findNeeds_60 : decode bb_MO_findNeeds 60 = .ok (.iload_n 1, 1) := by decide +kernel
theorem dd_MO_findNeeds_61 : decode bb_MO_findNeeds 61 = .ok (.imul, 1) := by decide +kernel
theorem dd_MO_findNeeds_62 : decode bb_MO_findNeeds 62 = .ok (.iadd, 1) := by decide +kernel
theorem dd_MO_findNeeds_63 : decode bb_MO_findNeeds 63 = .ok (.iconst 1, 1) := by decide +kernel
theorem dd_MO_findNeeds_64 : decode bb_MO_findNeeds 64 = .ok (.iadd, 1) := by decide +kernel
theorem dd_MO_findNeeds_65 : decode bb_MO_findNeeds 65 = .ok (.invokevirtual 60, 3) := by decide +kernel
theorem dd_MO_findNeeds_68 : decode bb_MO_findNeeds 68 = .ok (.aload_n 0, 1) := by decide +kernel
theorem dd_MO_findNeeds_69 : decode bb_MO_findNeeds 69 = .ok (.iconst 5, 1) := by decide +kernel
theorem dd_MO_findNeeds_70 : decode bb_MO_findNeeds 70 = .ok (.invokevirtual 60, 3) := by decide +kernel
theorem dd_MO_findNeeds_73 : decode bb_MO_findNeeds 73 = .ok (.if_icmp .le 18, 3) := by decide +kernel
theorem dd_MO_findNeeds_76 : decode bb_MO_findNeeds 76 = .ok (.aload_n 0, 1) := by decide +kernel
theorem dd_MO_findNeeds_77 : decode bb_MO_findNeeds 77 = .ok (.bipush 49, 2) := by decide +kernel
theorem dd_MO_findNeeds_79 : decode bb_MO_findNeeds 79 = .ok (.iconst 2, 1) := by decide +kernel
theorem dd_MO_findNeeds_80 : decode bb_MO_findNeeds 80 = .ok (.iload_n 1, 1) := by decide +kernel
theorem dd_MO_findNeeds_81 : decode bb_MO_findNeeds 81 = .ok (.imul, 1) := by decide +kernel
theorem dd_MO_findNeeds_82 : decode bb_MO_findNeeds 82 = .ok (.iadd, 1) := by decide +kernel
theorem dd_MO_findNeeds_83 : decode bb_MO_findNeeds 83 = .ok (.iconst 1, 1) := by decide +kernel
theorem dd_MO_findNeeds_84 : decode bb_MO_findNeeds 84 = .ok (.iadd, 1) := by decide +kernel
theorem dd_MO_findNeeds_85 : decode bb_MO_findNeeds 85 = .ok (.invokevirtual 60, 3) := by decide +kernel
theorem dd_MO_findNeeds_88 : decode bb_MO_findNeeds 88 = .ok (.goto 8, 3) := by decide +kernel
theorem dd_MO_findNeeds_91 : decode bb_MO_findNeeds 91 = .ok (.aload_n 0, 1) := by decide +kernel
theorem dd_MO_findNeeds_92 : decode bb_MO_findNeeds 92 = .ok (.iconst 5, 1) := by decide +kernel
theorem dd_MO_findNeeds_93 : decode bb_MO_findNeeds 93 = .ok (.invokevirtual 60, 3) := by decide +kernel
theorem dd_MO_findNeeds_96 : decode bb_MO_findNeeds 96 = .ok (.istore_n 3, 1) := by decide +kernel
theorem dd_MO_findNeeds_97 : decode bb_MO_findNeeds 97 = .ok (.aload_n 0, 1) := by decide +kernel
theorem dd_MO_findNeeds_98 : decode bb_MO_findNeeds 98 = .ok (.getfield 31, 3) := by decide +kernel
theorem dd_MO_findNeeds_101 : decode bb_MO_findNeeds 101 = .ok (.iload_n 2, 1) := by decide +kernel
theorem dd_MO_findNeeds_102 : decode bb_MO_findNeeds 102 = .ok (.aload_n 0, 1) := by decide +kernel
theorem dd_MO_findNeeds_103 : decode bb_MO_findNeeds 103 = .ok (.bipush 49, 2) := by decide +kernel
theorem dd_MO_findNeeds_105 : decode bb_MO_findNeeds 105 = .ok (.iconst 2, 1) := by decide +kernel
theorem dd_MO_findNeeds_106 : decode bb_MO_findNeeds 106 = .ok (.iload_n 1, 1) := by decide +kernel
theorem dd_MO_findNeeds_107 : decode bb_MO_findNeeds 107 = .ok (.imul, 1) := by decide +kernel
theorem dd_MO_findNeeds_108 : decode bb_MO_findNeeds 108 = .ok (.iadd, 1) := by decide +kernel
theorem dd_MO_findNeeds_109 : decode bb_MO_findNeeds 109 = .ok (.invokevirtual 60, 3) := by decide +kernel
theorem dd_MO_findNeeds_112 : decode bb_MO_findNeeds 112 = .ok (.iload_n 2, 1) := by decide +kernel
theorem dd_MO_findNeeds_113 : decode bb_MO_findNeeds 113 = .ok (.ishr, 1) := by decide +kernel
theorem dd_MO_findNeeds_114 : decode bb_MO_findNeeds 114 = .ok (.iconst 1, 1) := by decide +kernel
theorem dd_MO_findNeeds_115 : decode bb_MO_findNeeds 115 = .ok (.iand, 1) := by decide +kernel
theorem dd_MO_findNeeds_116 : decode bb_MO_findNeeds 116 = .ok (.iconst 1, 1) := by decide +kernel
theorem dd_MO_findNeeds_117 : decode bb_MO_findNeeds 117 = .ok (.if_icmp .ne 17, 3) := by decide +kernel
theorem dd_MO_findNeeds_120 : decode bb_MO_findNeeds 120 = .ok (.iload_n 3, 1) := by decide +kernel
theorem dd_MO_findNeeds_121 : decode bb_MO_findNeeds 121 = .ok (.aload_n 0, 1) := by decide +kernel
theorem dd_MO_findNeeds_122 : decode bb_MO_findNeeds 122 = .ok (.getfield 31, 3) := by decide +kernel
theorem dd_MO_findNeeds_125 : decode bb_MO_findNeeds 125 = .ok (.iload_n 2, 1) := by decide +kernel
theorem dd_MO_findNeeds_126 : decode bb_MO_findNeeds 126 = .ok (.iaload, 1) := by decide +kernel
theorem dd_MO_findNeeds_127 : decode bb_MO_findNeeds 127 = .ok (.if_icmp .le 7, 3) := by decide +kernel
theorem dd_MO_findNeeds_130 : decode bb_MO_findNeeds 130 = .ok (.iload_n 3, 1) := by decide +kernel
theorem dd_MO_findNeeds_131 : decode bb_MO_findNeeds 131 = .ok (.goto 9, 3) := by decide +kernel
theorem dd_MO_findNeeds_134 : decode bb_MO_findNeeds 134 = .ok (.aload_n 0, 1) := by decide +kernel
theorem dd_MO_findNeeds_135 : decode bb_MO_findNeeds 135 = .ok (.getfield 31, 3) := by decide +kernel
theorem dd_MO_findNeeds_138 : decode bb_MO_findNeeds 138 = .ok (.iload_n 2, 1) := by decide +kernel
theorem dd_MO_findNeeds_139 : decode bb_MO_findNeeds 139 = .ok (.iaload, 1) := by decide +kernel
theorem dd_MO_findNeeds_140 : decode bb_MO_findNeeds 140 = .ok (.iastore, 1) := by decide +kernel
theorem dd_MO_findNeeds_141 : decode bb_MO_findNeeds 141 = .ok (.iinc 2 1, 3) := by decide +kernel
theorem dd_MO_findNeeds_144 : decode bb_MO_findNeeds 144 = .ok (.goto (-97), 3) := by decide +kernel
theorem dd_MO_findNeeds_147 : decode bb_MO_findNeeds 147 = .ok (.iinc 1 1, 3) := by decide +kernel
theorem dd_MO_findNeeds_150 : decode bb_MO_findNeeds 150 = .ok (.goto (-122), 3) := by decide +kernel
theorem dd_MO_findNeeds_153 : decode bb_MO_findNeeds 153 = .ok (.return_, 1) := by decide +kernel
def ff_MO_findNeeds_96 (k_28 : St → Nat → Int32 → Option (Unit × St)) (k_47 : St → Nat → Int32 → Int32 → Option (Unit × St)) (x : St) (v0 : Nat) (v1 : Int32) (v2 : Int32) (w0 : Int32) : Option (Unit × St) := bnd (ff_MO_get x v0 (49 + (2 * v1))) (fun r_27 x_28 => (if ((r_27 >>> (v2 &&& 31)) &&& 1) = 1 then (if ixb v2 (ln (rf v0 15)) = true then (if w0 ≤ (gi x_28 (rf v0 15) (ix v2)) then (if ixb v2 (ln (rf v0 15)) = true then (if ixb v2 (ln (rf v0 15)) = true then st (si x_28 (rf v0 15) (ix v2) (gi x_28 (rf v0 15) (ix v2))) (fun x_38 => k_47 x_38 v0 v1 (v2 + 1)) else none) else none) else (if ixb v2 (ln (rf v0 15)) = true then st (si x_28 (rf v0 15) (ix v2) w0) (fun x_40 => k_47 x_40 v0 v1 (v2 + 1)) else none)) else none) else (if ixb v2 (ln (rf v0 15)) = true then (if ixb v2 (ln (rf v0 15)) = true then st (si x_28 (rf v0 15) (ix v2) (gi x_28 (rf v0 15) (ix v2))) (fun x_33 => k_47 x_33 v0 v1 (v2 + 1)) else none) else none)))
def ff_MO_findNeeds_47 (k_28 : St → Nat → Int32 → Option (Unit × St)) : Nat → St → Nat → Int32 → Int32 → Option (Unit × St)
  | 0, _, _, _, _ => none
  | n + 1, x, v0, v1, v2 => bnd (ff_MO_get x v0 1) (fun r_13 x_14 => (if r_13 ≤ v2 then k_28 x_14 v0 (v1 + 1) else bnd (ff_MO_get x_14 v0 ((49 + (2 * v1)) + 1)) (fun r_17 x_18 => bnd (ff_MO_get x_18 v0 5) (fun r_20 x_21 => (if r_17 ≤ r_20 then bnd (ff_MO_get x_21 v0 5) (fun r_24 x_25 => ff_MO_findNeeds_96 k_28 (ff_MO_findNeeds_47 k_28 n) x_25 v0 v1 v2 r_24) else bnd (ff_MO_get x_21 v0 ((49 + (2 * v1)) + 1)) (fun r_41 x_42 => ff_MO_findNeeds_96 k_28 (ff_MO_findNeeds_47 k_28 n) x_42 v0 v1 v2 r_41))))))
def ff_MO_findNeeds_28  : Nat → St → Nat → Int32 → Option (Unit × St)
  | 0, _, _, _ => none
  | n + 1, x, v0, v1 => bnd (ff_MO_get x v0 2) (fun r_5 x_6 => (if r_5 ≤ v1 then some ((), x_6) else bnd (ff_MO_isLasting x_6 v0 v1) (fun r_9 x_10 => (if r_9 = 0 then ff_MO_findNeeds_47 (ff_MO_findNeeds_28 n) FU x_10 v0 v1 0 else ff_MO_findNeeds_28 n x_10 v0 (v1 + 1)))))
def ff_MO_findNeeds_7  : Nat → St → Nat → Int32 → Option (Unit × St)
  | 0, _, _, _ => none
  | n + 1, x, v0, v1 => (if 6 ≤ v1 then ff_MO_findNeeds_28 FU x v0 0 else (if ixb v1 (ln (rf v0 15)) = true then st (si x (rf v0 15) (ix v1) (-1)) (fun x_45 => ff_MO_findNeeds_7 n x_45 v0 (v1 + 1)) else none))
def ff_MO_findNeeds  (x : St) (v0 : Nat) : Option (Unit × St) := bnd (ff_MO_findGriefs x v0 (-1)) (fun _ x_2 => ff_MO_findNeeds_7 FU x_2 v0 0)
set_option maxHeartbeats 4000000 in
set_option maxRecDepth 100000 in
theorem ww_MO_findNeeds_96 {p : Program} {l : Launch} {e : Env} {s : State} {m : MethodId} {args : Array Value} {below : List Frame} {meth : Method} {c : Code} {E : Ev} {A : Nat → Prop} {ad : Nat → Nat} {r : Unit} {x' : St} (C0 : Cx E A RMO bb_MO_findNeeds 4 (none) p s m args meth c) (hap : Ap ad ixM A) {k_28 : St → Nat → Int32 → Option (Unit × St)} (hk_28 : ∀ (x : St) (v0 : Nat) (v1 : Int32), (isO ixM v0 6) → k_28 x v0 v1 = some (r, x') → ∀ (H : Heap) (locs : List Loc) (ls : Array Slot), Wd E ad ixM x H → va_S A s.heap H locs → lv_has ls 4 [(0, .ref (ad v0)), (1, .int v1)] → W p l e rm_MO_findNeeds s m args below meth c H locs 0 0 (MQ below (QX E ad ixM A (none) x') args s 0 0 A) (F0 m 28 ls [])) {k_47 : St → Nat → Int32 → Int32 → Option (Unit × St)} (hk_47 : ∀ (x : St) (v0 : Nat) (v1 : Int32) (v2 : Int32), (isO ixM v0 6) → k_47 x v0 v1 v2 = some (r, x') → ∀ (H : Heap) (locs : List Loc) (ls : Array Slot), Wd E ad ixM x H → va_S A s.heap H locs → lv_has ls 4 [(0, .ref (ad v0)), (1, .int v1), (2, .int v2)] → W p l e rm_MO_findNeeds s m args below meth c H locs 0 0 (MQ below (QX E ad ixM A (none) x') args s 0 0 A) (F0 m 47 ls [])) {x : St} {v0 : Nat} {v1 : Int32} {v2 : Int32} {w0 : Int32} (ho_v0 : isO ixM v0 6) (hf : ff_MO_findNeeds_96 k_28 k_47 x v0 v1 v2 w0 = some (r, x')) {H : Heap} {locs : List Loc} {ls : Array Slot} (hP : Wd E ad ixM x H) (hS : va_S A s.heap H locs) (hl : lv_has ls 4 [(0, .ref (ad v0)), (1, .int v1), (2, .int v2)]) : W p l e rm_MO_findNeeds s m args below meth c H locs 0 0 (MQ below (QX E ad ixM A (none) x') args s 0 0 A) (F0 m 96 ls [.int w0]) := by
  obtain ⟨hx, hb, hml, hr, hown, hts, hlk, hK⟩ := id C0
  have hf : bnd (ff_MO_get x v0 (49 + (2 * v1))) (fun r_27 x_28 => (if ((r_27 >>> (v2 &&& 31)) &&& 1) = 1 then (if ixb v2 (ln (rf v0 15)) = true then (if w0 ≤ (gi x_28 (rf v0 15) (ix v2)) then (if ixb v2 (ln (rf v0 15)) = true then (if ixb v2 (ln (rf v0 15)) = true then st (si x_28 (rf v0 15) (ix v2) (gi x_28 (rf v0 15) (ix v2))) (fun x_38 => k_47 x_38 v0 v1 (v2 + 1)) else none) else none) else (if ixb v2 (ln (rf v0 15)) = true then st (si x_28 (rf v0 15) (ix v2) w0) (fun x_40 => k_47 x_40 v0 v1 (v2 + 1)) else none)) else none) else (if ixb v2 (ln (rf v0 15)) = true then (if ixb v2 (ln (rf v0 15)) = true then st (si x_28 (rf v0 15) (ix v2) (gi x_28 (rf v0 15) (ix v2))) (fun x_33 => k_47 x_33 v0 v1 (v2 + 1)) else none) else none))) = some (r, x') := hf
  refine lv_istore_n (lv' := [(3, .int w0), (0, .ref (ad v0)), (1, .int v1), (2, .int v2)]) hx hb dd_MO_findNeeds_96 rfl hl (by decide) rfl (fun ls hl => ?_)
  refine lv_aload_n hx hb dd_MO_findNeeds_97 rfl (lv_at hl 1 rfl) ?_
  refine gf_MO_31 C0 hP ho_v0 dd_MO_findNeeds_98 ?_
  refine lv_iload_n hx hb dd_MO_findNeeds_101 rfl (lv_at hl 3 rfl) ?_
  refine lv_aload_n hx hb dd_MO_findNeeds_102 rfl (lv_at hl 1 rfl) ?_
  refine lv_bipush (v := 49) hx hb dd_MO_findNeeds_103 (by decide) ?_
  refine lv_iconst (v := 2) hx hb dd_MO_findNeeds_105 (by decide) ?_
  refine lv_iload_n hx hb dd_MO_findNeeds_106 rfl (lv_at hl 2 rfl) ?_
  refine lv_imul hx hb dd_MO_findNeeds_107 ?_
  refine lv_iadd hx hb dd_MO_findNeeds_108 ?_
  obtain ⟨r_27, x_28, c_29, hf⟩ := of_bnd hf
  refine cl_MO_60 C0 hap ho_v0 c_29 hP hS ⟨Nat.le_of_ble_eq_true rfl, Nat.le_of_ble_eq_true rfl⟩ hl.1 (Nat.le_of_ble_eq_true rfl) dd_MO_findNeeds_109 ⟨Nat.le_refl _, Nat.le_refl _⟩ (fun H locs hP hS => ?_)
  refine lv_iload_n hx hb dd_MO_findNeeds_112 rfl (lv_at hl 3 rfl) ?_
  refine lv_ishr hx hb dd_MO_findNeeds_113 ?_
  refine lv_iconst (v := 1) hx hb dd_MO_findNeeds_114 (by decide) ?_
  refine lv_iand hx hb dd_MO_findNeeds_115 ?_
  refine lv_iconst (v := 1) hx hb dd_MO_findNeeds_116 (by decide) ?_
  refine lv_icmp_ne (tgt := 134) hx hb dd_MO_findNeeds_117 (by decide) (fun h_30 => ?_) (fun h_30 => ?_)
  · have hf := (if_neg h_30).symm.trans hf
    refine lv_aload_n hx hb dd_MO_findNeeds_134 rfl (lv_at hl 1 rfl) ?_
    refine gf_MO_31 C0 hP ho_v0 dd_MO_findNeeds_135 ?_
    refine lv_iload_n hx hb dd_MO_findNeeds_138 rfl (lv_at hl 3 rfl) ?_
    obtain ⟨h_31, hf⟩ := of_ifb hf
    refine raI C0 hP (tp_6_15 ho_v0) h_31 dd_MO_findNeeds_139 ?_
    obtain ⟨h_32, hf⟩ := of_ifb hf
    obtain ⟨x_33, hx_33, hf⟩ := of_st hf
    refine sI C0 hap hP hS (tp_6_15 ho_v0) h_32 hx_33 dd_MO_findNeeds_140 (fun H locs hP hS => ?_)
    refine lv_iinc (v := v2 + 1) (lv' := [(2, .int (v2 + 1)), (3, .int w0), (0, .ref (ad v0)), (1, .int v1)]) hx hb dd_MO_findNeeds_141 hl (k := 3) rfl rfl (by decide) rfl (fun ls hl => ?_)
    refine lv_goto (tgt := 47) hx hb dd_MO_findNeeds_144 (by decide) ?_
    exact hk_47 x_33 v0 v1 (v2 + 1) ho_v0 hf _ _ _ hP hS (lv_sub hl [2, 3, 0] rfl)
  · have hf := (if_pos h_30).symm.trans hf
    refine lv_iload_n hx hb dd_MO_findNeeds_120 rfl (lv_at hl 0 rfl) ?_
    refine lv_aload_n hx hb dd_MO_findNeeds_121 rfl (lv_at hl 1 rfl) ?_
    refine gf_MO_31 C0 hP ho_v0 dd_MO_findNeeds_122 ?_
    refine lv_iload_n hx hb dd_MO_findNeeds_125 rfl (lv_at hl 3 rfl) ?_
    obtain ⟨h_34, hf⟩ := of_ifb hf
    refine raI C0 hP (tp_6_15 ho_v0) h_34 dd_MO_findNeeds_126 ?_
    refine lv_icmp_le (tgt := 134) hx hb dd_MO_findNeeds_127 (by decide) (fun h_35 => ?_) (fun h_35 => ?_)
    · have hf := (if_pos h_35).symm.trans hf
      refine lv_aload_n hx hb dd_MO_findNeeds_134 rfl (lv_at hl 1 rfl) ?_
      refine gf_MO_31 C0 hP ho_v0 dd_MO_findNeeds_135 ?_
      refine lv_iload_n hx hb dd_MO_findNeeds_138 rfl (lv_at hl 3 rfl) ?_
      obtain ⟨h_36, hf⟩ := of_ifb hf
      refine raI C0 hP (tp_6_15 ho_v0) h_36 dd_MO_findNeeds_139 ?_
      obtain ⟨h_37, hf⟩ := of_ifb hf
      obtain ⟨x_38, hx_38, hf⟩ := of_st hf
      refine sI C0 hap hP hS (tp_6_15 ho_v0) h_37 hx_38 dd_MO_findNeeds_140 (fun H locs hP hS => ?_)
      refine lv_iinc (v := v2 + 1) (lv' := [(2, .int (v2 + 1)), (3, .int w0), (0, .ref (ad v0)), (1, .int v1)]) hx hb dd_MO_findNeeds_141 hl (k := 3) rfl rfl (by decide) rfl (fun ls hl => ?_)
      refine lv_goto (tgt := 47) hx hb dd_MO_findNeeds_144 (by decide) ?_
      exact hk_47 x_38 v0 v1 (v2 + 1) ho_v0 hf _ _ _ hP hS (lv_sub hl [2, 3, 0] rfl)
    · have hf := (if_neg h_35).symm.trans hf
      refine lv_iload_n hx hb dd_MO_findNeeds_130 rfl (lv_at hl 0 rfl) ?_
      refine lv_goto (tgt := 140) hx hb dd_MO_findNeeds_131 (by decide) ?_
      obtain ⟨h_39, hf⟩ := of_ifb hf
      obtain ⟨x_40, hx_40, hf⟩ := of_st hf
      refine sI C0 hap hP hS (tp_6_15 ho_v0) h_39 hx_40 dd_MO_findNeeds_140 (fun H locs hP hS => ?_)
      refine lv_iinc (v := v2 + 1) (lv' := [(2, .int (v2 + 1)), (3, .int w0), (0, .ref (ad v0)), (1, .int v1)]) hx hb dd_MO_findNeeds_141 hl (k := 3) rfl rfl (by decide) rfl (fun ls hl => ?_)
      refine lv_goto (tgt := 47) hx hb dd_MO_findNeeds_144 (by decide) ?_
      exact hk_47 x_40 v0 v1 (v2 + 1) ho_v0 hf _ _ _ hP hS (lv_sub hl [2, 3, 0] rfl)
set_option maxHeartbeats 4000000 in
set_option maxRecDepth 100000 in
theorem ww_MO_findNeeds_47 {p : Program} {l : Launch} {e : Env} {s : State} {m : MethodId} {args : Array Value} {below : List Frame} {meth : Method} {c : Code} {E : Ev} {A : Nat → Prop} {ad : Nat → Nat} {r : Unit} {x' : St} (C0 : Cx E A RMO bb_MO_findNeeds 4 (none) p s m args meth c) (hap : Ap ad ixM A) {k_28 : St → Nat → Int32 → Option (Unit × St)} (hk_28 : ∀ (x : St) (v0 : Nat) (v1 : Int32), (isO ixM v0 6) → k_28 x v0 v1 = some (r, x') → ∀ (H : Heap) (locs : List Loc) (ls : Array Slot), Wd E ad ixM x H → va_S A s.heap H locs → lv_has ls 4 [(0, .ref (ad v0)), (1, .int v1)] → W p l e rm_MO_findNeeds s m args below meth c H locs 0 0 (MQ below (QX E ad ixM A (none) x') args s 0 0 A) (F0 m 28 ls [])) : ∀ (n : Nat), ∀ (x : St) (v0 : Nat) (v1 : Int32) (v2 : Int32), (isO ixM v0 6) → ff_MO_findNeeds_47 k_28 n x v0 v1 v2 = some (r, x') → ∀ (H : Heap) (locs : List Loc) (ls : Array Slot), Wd E ad ixM x H → va_S A s.heap H locs → lv_has ls 4 [(0, .ref (ad v0)), (1, .int v1), (2, .int v2)] → W p l e rm_MO_findNeeds s m args below meth c H locs 0 0 (MQ below (QX E ad ixM A (none) x') args s 0 0 A) (F0 m 47 ls []) := by
  obtain ⟨hx, hb, hml, hr, hown, hts, hlk, hK⟩ := id C0
  intro n
  induction n with
  | zero => intro x v0 v1 v2 ho_v0 hf; exact of_no hf
  | succ n ih =>
    intro x v0 v1 v2 ho_v0 hf H locs ls hP hS hl
    have hf : bnd (ff_MO_get x v0 1) (fun r_13 x_14 => (if r_13 ≤ v2 then k_28 x_14 v0 (v1 + 1) else bnd (ff_MO_get x_14 v0 ((49 + (2 * v1)) + 1)) (fun r_17 x_18 => bnd (ff_MO_get x_18 v0 5) (fun r_20 x_21 => (if r_17 ≤ r_20 then bnd (ff_MO_get x_21 v0 5) (fun r_24 x_25 => ff_MO_findNeeds_96 k_28 (ff_MO_findNeeds_47 k_28 n) x_25 v0 v1 v2 r_24) else bnd (ff_MO_get x_21 v0 ((49 + (2 * v1)) + 1)) (fun r_41 x_42 => ff_MO_findNeeds_96 k_28 (ff_MO_findNeeds_47 k_28 n) x_42 v0 v1 v2 r_41)))))) = some (r, x') := hf
    refine lv_iload_n hx hb dd_MO_findNeeds_47 rfl (lv_at hl 2 rfl) ?_
    refine lv_aload_n hx hb dd_MO_findNeeds_48 rfl (lv_at hl 0 rfl) ?_
    refine lv_iconst (v := 1) hx hb dd_MO_findNeeds_49 (by decide) ?_
    obtain ⟨r_13, x_14, c_15, hf⟩ := of_bnd hf
    refine cl_MO_60 C0 hap ho_v0 c_15 hP hS ⟨Nat.le_of_ble_eq_true rfl, Nat.le_of_ble_eq_true rfl⟩ hl.1 (Nat.le_of_ble_eq_true rfl) dd_MO_findNeeds_50 ⟨Nat.le_refl _, Nat.le_refl _⟩ (fun H locs hP hS => ?_)
    refine lv_icmp_ge (tgt := 147) hx hb dd_MO_findNeeds_53 (by decide) (fun h_16 => ?_) (fun h_16 => ?_)
    · have hf := (if_pos h_16).symm.trans hf
      refine lv_iinc (v := v1 + 1) (lv' := [(1, .int (v1 + 1)), (0, .ref (ad v0)), (2, .int v2)]) hx hb dd_MO_findNeeds_147 hl (k := 1) rfl rfl (by decide) rfl (fun ls hl => ?_)
      refine lv_goto (tgt := 28) hx hb dd_MO_findNeeds_150 (by decide) ?_
      exact hk_28 x_14 v0 (v1 + 1) ho_v0 hf _ _ _ hP hS (lv_sub hl [1, 0] rfl)
    · have hf := (if_neg h_16).symm.trans hf
      refine lv_aload_n hx hb dd_MO_findNeeds_56 rfl (lv_at hl 0 rfl) ?_
      refine lv_bipush (v := 49) hx hb dd_MO_findNeeds_57 (by decide) ?_
      refine lv_iconst (v := 2) hx hb dd_MO_findNeeds_59 (by decide) ?_
      refine lv_iload_n hx hb dd_MO_findNeeds_60 rfl (lv_at hl 1 rfl) ?_
      refine lv_imul hx hb dd_MO_findNeeds_61 ?_
      refine lv_iadd hx hb dd_MO_findNeeds_62 ?_
      refine lv_iconst (v := 1) hx hb dd_MO_findNeeds_63 (by decide) ?_
      refine lv_iadd hx hb dd_MO_findNeeds_64 ?_
      obtain ⟨r_17, x_18, c_19, hf⟩ := of_bnd hf
      refine cl_MO_60 C0 hap ho_v0 c_19 hP hS ⟨Nat.le_of_ble_eq_true rfl, Nat.le_of_ble_eq_true rfl⟩ hl.1 (Nat.le_of_ble_eq_true rfl) dd_MO_findNeeds_65 ⟨Nat.le_refl _, Nat.le_refl _⟩ (fun H locs hP hS => ?_)
      refine lv_aload_n hx hb dd_MO_findNeeds_68 rfl (lv_at hl 0 rfl) ?_
      refine lv_iconst (v := 5) hx hb dd_MO_findNeeds_69 (by decide) ?_
      obtain ⟨r_20, x_21, c_22, hf⟩ := of_bnd hf
      refine cl_MO_60 C0 hap ho_v0 c_22 hP hS ⟨Nat.le_of_ble_eq_true rfl, Nat.le_of_ble_eq_true rfl⟩ hl.1 (Nat.le_of_ble_eq_true rfl) dd_MO_findNeeds_70 ⟨Nat.le_refl _, Nat.le_refl _⟩ (fun H locs hP hS => ?_)
      refine lv_icmp_le (tgt := 91) hx hb dd_MO_findNeeds_73 (by decide) (fun h_23 => ?_) (fun h_23 => ?_)
      · have hf := (if_pos h_23).symm.trans hf
        refine lv_aload_n hx hb dd_MO_findNeeds_91 rfl (lv_at hl 0 rfl) ?_
        refine lv_iconst (v := 5) hx hb dd_MO_findNeeds_92 (by decide) ?_
        obtain ⟨r_24, x_25, c_26, hf⟩ := of_bnd hf
        refine cl_MO_60 C0 hap ho_v0 c_26 hP hS ⟨Nat.le_of_ble_eq_true rfl, Nat.le_of_ble_eq_true rfl⟩ hl.1 (Nat.le_of_ble_eq_true rfl) dd_MO_findNeeds_93 ⟨Nat.le_refl _, Nat.le_refl _⟩ (fun H locs hP hS => ?_)
        exact ww_MO_findNeeds_96 C0 hap hk_28 ih ho_v0 hf hP hS (lv_sub hl [0, 1, 2] rfl)
      · have hf := (if_neg h_23).symm.trans hf
        refine lv_aload_n hx hb dd_MO_findNeeds_76 rfl (lv_at hl 0 rfl) ?_
        refine lv_bipush (v := 49) hx hb dd_MO_findNeeds_77 (by decide) ?_
        refine lv_iconst (v := 2) hx hb dd_MO_findNeeds_79 (by decide) ?_
        refine lv_iload_n hx hb dd_MO_findNeeds_80 rfl (lv_at hl 1 rfl) ?_
        refine lv_imul hx hb dd_MO_findNeeds_81 ?_
        refine lv_iadd hx hb dd_MO_findNeeds_82 ?_
        refine lv_iconst (v := 1) hx hb dd_MO_findNeeds_83 (by decide) ?_
        refine lv_iadd hx hb dd_MO_findNeeds_84 ?_
        obtain ⟨r_41, x_42, c_43, hf⟩ := of_bnd hf
        refine cl_MO_60 C0 hap ho_v0 c_43 hP hS ⟨Nat.le_of_ble_eq_true rfl, Nat.le_of_ble_eq_true rfl⟩ hl.1 (Nat.le_of_ble_eq_true rfl) dd_MO_findNeeds_85 ⟨Nat.le_refl _, Nat.le_refl _⟩ (fun H locs hP hS => ?_)
        refine lv_goto (tgt := 96) hx hb dd_MO_findNeeds_88 (by decide) ?_
        exact ww_MO_findNeeds_96 C0 hap hk_28 ih ho_v0 hf hP hS (lv_sub hl [0, 1, 2] rfl)
set_option maxHeartbeats 4000000 in
set_option maxRecDepth 100000 in
theorem ww_MO_findNeeds_28 {p : Program} {l : Launch} {e : Env} {s : State} {m : MethodId} {args : Array Value} {below : List Frame} {meth : Method} {c : Code} {E : Ev} {A : Nat → Prop} {ad : Nat → Nat} {r : Unit} {x' : St} (C0 : Cx E A RMO bb_MO_findNeeds 4 (none) p s m args meth c) (hap : Ap ad ixM A)  : ∀ (n : Nat), ∀ (x : St) (v0 : Nat) (v1 : Int32), (isO ixM v0 6) → ff_MO_findNeeds_28 n x v0 v1 = some (r, x') → ∀ (H : Heap) (locs : List Loc) (ls : Array Slot), Wd E ad ixM x H → va_S A s.heap H locs → lv_has ls 4 [(0, .ref (ad v0)), (1, .int v1)] → W p l e rm_MO_findNeeds s m args below meth c H locs 0 0 (MQ below (QX E ad ixM A (none) x') args s 0 0 A) (F0 m 28 ls []) := by
  obtain ⟨hx, hb, hml, hr, hown, hts, hlk, hK⟩ := id C0
  intro n
  induction n with
  | zero => intro x v0 v1 ho_v0 hf; exact of_no hf
  | succ n ih =>
    intro x v0 v1 ho_v0 hf H locs ls hP hS hl
    have hf : bnd (ff_MO_get x v0 2) (fun r_5 x_6 => (if r_5 ≤ v1 then some ((), x_6) else bnd (ff_MO_isLasting x_6 v0 v1) (fun r_9 x_10 => (if r_9 = 0 then ff_MO_findNeeds_47 (ff_MO_findNeeds_28 n) FU x_10 v0 v1 0 else ff_MO_findNeeds_28 n x_10 v0 (v1 + 1))))) = some (r, x') := hf
    refine lv_iload_n hx hb dd_MO_findNeeds_28 rfl (lv_at hl 1 rfl) ?_
    refine lv_aload_n hx hb dd_MO_findNeeds_29 rfl (lv_at hl 0 rfl) ?_
    refine lv_iconst (v := 2) hx hb dd_MO_findNeeds_30 (by decide) ?_
    obtain ⟨r_5, x_6, c_7, hf⟩ := of_bnd hf
    refine cl_MO_60 C0 hap ho_v0 c_7 hP hS ⟨Nat.le_of_ble_eq_true rfl, Nat.le_of_ble_eq_true rfl⟩ hl.1 (Nat.le_of_ble_eq_true rfl) dd_MO_findNeeds_31 ⟨Nat.le_refl _, Nat.le_refl _⟩ (fun H locs hP hS => ?_)
    refine lv_icmp_ge (tgt := 153) hx hb dd_MO_findNeeds_34 (by decide) (fun h_8 => ?_) (fun h_8 => ?_)
    · have hf := (if_pos h_8).symm.trans hf
      exact rrV C0 hP hS dd_MO_findNeeds_153 hf
    · have hf := (if_neg h_8).symm.trans hf
      refine lv_aload_n hx hb dd_MO_findNeeds_37 rfl (lv_at hl 0 rfl) ?_
      refine lv_iload_n hx hb dd_MO_findNeeds_38 rfl (lv_at hl 1 rfl) ?_
      obtain ⟨r_9, x_10, c_11, hf⟩ := of_bnd hf
      refine cl_MO_201 C0 hap ho_v0 c_11 hP hS ⟨Nat.le_of_ble_eq_true rfl, Nat.le_of_ble_eq_true rfl⟩ hl.1 (Nat.le_of_ble_eq_true rfl) dd_MO_findNeeds_39 ⟨Nat.le_refl _, Nat.le_refl _⟩ (fun H locs hP hS => ?_)
      refine lv_if_ne (tgt := 147) hx hb dd_MO_findNeeds_42 (by decide) (fun h_12 => ?_) (fun h_12 => ?_)
      · have hf := (if_neg h_12).symm.trans hf
        refine lv_iinc (v := v1 + 1) (lv' := [(1, .int (v1 + 1)), (0, .ref (ad v0))]) hx hb dd_MO_findNeeds_147 hl (k := 1) rfl rfl (by decide) rfl (fun ls hl => ?_)
        refine lv_goto (tgt := 28) hx hb dd_MO_findNeeds_150 (by decide) ?_
        exact ih x_10 v0 (v1 + 1) ho_v0 hf _ _ _ hP hS (lv_sub hl [1, 0] rfl)
      · have hf := (if_pos h_12).symm.trans hf
        refine lv_iconst (v := 0) hx hb dd_MO_findNeeds_45 (by decide) ?_
        refine lv_istore_n (lv' := [(2, .int 0), (0, .ref (ad v0)), (1, .int v1)]) hx hb dd_MO_findNeeds_46 rfl hl (by decide) rfl (fun ls hl => ?_)
        exact ww_MO_findNeeds_47 C0 hap ih FU x_10 v0 v1 0 ho_v0 hf _ _ _ hP hS (lv_sub hl [1, 2, 0] rfl)
set_option maxHeartbeats 4000000 in
set_option maxRecDepth 100000 in
theorem ww_MO_findNeeds_7 {p : Program} {l : Launch} {e : Env} {s : State} {m : MethodId} {args : Array Value} {below : List Frame} {meth : Method} {c : Code} {E : Ev} {A : Nat → Prop} {ad : Nat → Nat} {r : Unit} {x' : St} (C0 : Cx E A RMO bb_MO_findNeeds 4 (none) p s m args meth c) (hap : Ap ad ixM A)  : ∀ (n : Nat), ∀ (x : St) (v0 : Nat) (v1 : Int32), (isO ixM v0 6) → ff_MO_findNeeds_7 n x v0 v1 = some (r, x') → ∀ (H : Heap) (locs : List Loc) (ls : Array Slot), Wd E ad ixM x H → va_S A s.heap H locs → lv_has ls 4 [(0, .ref (ad v0)), (1, .int v1)] → W p l e rm_MO_findNeeds s m args below meth c H locs 0 0 (MQ below (QX E ad ixM A (none) x') args s 0 0 A) (F0 m 7 ls []) := by
  obtain ⟨hx, hb, hml, hr, hown, hts, hlk, hK⟩ := id C0
  intro n
  induction n with
  | zero => intro x v0 v1 ho_v0 hf; exact of_no hf
  | succ n ih =>
    intro x v0 v1 ho_v0 hf H locs ls hP hS hl
    have hf : (if 6 ≤ v1 then ff_MO_findNeeds_28 FU x v0 0 else (if ixb v1 (ln (rf v0 15)) = true then st (si x (rf v0 15) (ix v1) (-1)) (fun x_45 => ff_MO_findNeeds_7 n x_45 v0 (v1 + 1)) else none)) = some (r, x') := hf
    refine lv_iload_n hx hb dd_MO_findNeeds_7 rfl (lv_at hl 1 rfl) ?_
    refine lv_bipush (v := 6) hx hb dd_MO_findNeeds_8 (by decide) ?_
    refine lv_icmp_ge (tgt := 26) hx hb dd_MO_findNeeds_10 (by decide) (fun h_4 => ?_) (fun h_4 => ?_)
    · have hf := (if_pos h_4).symm.trans hf
      refine lv_iconst (v := 0) hx hb dd_MO_findNeeds_26 (by decide) ?_
      refine lv_istore_n (lv' := [(1, .int 0), (0, .ref (ad v0))]) hx hb dd_MO_findNeeds_27 rfl hl (by decide) rfl (fun ls hl => ?_)
      exact ww_MO_findNeeds_28 C0 hap  FU x v0 0 ho_v0 hf _ _ _ hP hS (lv_sub hl [1, 0] rfl)
    · have hf := (if_neg h_4).symm.trans hf
      refine lv_aload_n hx hb dd_MO_findNeeds_13 rfl (lv_at hl 0 rfl) ?_
      refine gf_MO_31 C0 hP ho_v0 dd_MO_findNeeds_14 ?_
      refine lv_iload_n hx hb dd_MO_findNeeds_17 rfl (lv_at hl 1 rfl) ?_
      refine lv_iconst (v := -1) hx hb dd_MO_findNeeds_18 (by decide) ?_
      obtain ⟨h_44, hf⟩ := of_ifb hf
      obtain ⟨x_45, hx_45, hf⟩ := of_st hf
      refine sI C0 hap hP hS (tp_6_15 ho_v0) h_44 hx_45 dd_MO_findNeeds_19 (fun H locs hP hS => ?_)
      refine lv_iinc (v := v1 + 1) (lv' := [(1, .int (v1 + 1)), (0, .ref (ad v0))]) hx hb dd_MO_findNeeds_20 hl (k := 1) rfl rfl (by decide) rfl (fun ls hl => ?_)
      refine lv_goto (tgt := 7) hx hb dd_MO_findNeeds_23 (by decide) ?_
      exact ih x_45 v0 (v1 + 1) ho_v0 hf _ _ _ hP hS (lv_sub hl [1, 0] rfl)
set_option maxHeartbeats 4000000 in
set_option maxRecDepth 100000 in
theorem ww_MO_findNeeds {p : Program} {l : Launch} {e : Env} {s : State} {m : MethodId} {args : Array Value} {below : List Frame} {meth : Method} {c : Code} {E : Ev} {A : Nat → Prop} {ad : Nat → Nat} {r : Unit} {x' : St} (C0 : Cx E A RMO bb_MO_findNeeds 4 (none) p s m args meth c) (hap : Ap ad ixM A)  {x : St} {v0 : Nat} (ho_v0 : isO ixM v0 6) (hf : ff_MO_findNeeds x v0 = some (r, x')) {H : Heap} {locs : List Loc} {ls : Array Slot} (hP : Wd E ad ixM x H) (hS : va_S A s.heap H locs) (hl : lv_has ls 4 [(0, .ref (ad v0))]) : W p l e rm_MO_findNeeds s m args below meth c H locs 0 0 (MQ below (QX E ad ixM A (none) x') args s 0 0 A) (F0 m 0 ls []) := by
  obtain ⟨hx, hb, hml, hr, hown, hts, hlk, hK⟩ := id C0
  have hf : bnd (ff_MO_findGriefs x v0 (-1)) (fun _ x_2 => ff_MO_findNeeds_7 FU x_2 v0 0) = some (r, x') := hf
  refine lv_aload_n hx hb dd_MO_findNeeds_0 rfl (lv_at hl 0 rfl) ?_
  refine lv_iconst (v := -1) hx hb dd_MO_findNeeds_1 (by decide) ?_
  obtain ⟨_, x_2, c_3, hf⟩ := of_bnd hf
  refine cl_MO_189 C0 hap ho_v0 c_3 hP hS ⟨Nat.le_of_ble_eq_true rfl, Nat.le_of_ble_eq_true rfl⟩ hl.1 (Nat.le_of_ble_eq_true rfl) dd_MO_findNeeds_2 ⟨Nat.le_refl _, Nat.le_refl _⟩ (fun H locs hP hS => ?_)
  refine lv_iconst (v := 0) hx hb dd_MO_findNeeds_5 (by decide) ?_
  refine lv_istore_n (lv' := [(1, .int 0), (0, .ref (ad v0))]) hx hb dd_MO_findNeeds_6 rfl hl (by decide) rfl (fun ls hl => ?_)
  exact ww_MO_findNeeds_7 C0 hap  FU x_2 v0 0 ho_v0 hf _ _ _ hP hS (lv_sub hl [1, 0] rfl)
theorem cc_MO_findNeeds {l : Launch} {E : Ev} {A : Nat → Prop} {ad : Nat → Nat} (hap : Ap ad ixM A) {x x' : St} {v0 : Nat} {r : Unit} (ho_v0 : isO ixM v0 6) (hf : ff_MO_findNeeds x v0 = some (r, x')) : Met l yy_MO_findNeeds (Cond.code yy_MO_findNeeds bb_MO_findNeeds 4 (none) :: gtb) rm_MO_findNeeds (va_Pc [.ref (ad v0)] (PB E A ad ixM x)) (QX E ad ixM A (none) x') 0 0 A := by
  exact enter (by decide) (Nat.le_of_ble_eq_true rfl) (fun p e s m below meth c ls C0 hP hS hl => ww_MO_findNeeds C0 hap ho_v0 hf hP hS hl)
abbrev rm_MO_wouldHold : Room := { frames := 1, cells := 0, slots := 0, locals := 23 }
theorem dd_MO_wouldHold_0 : decode bb_MO_wouldHold 0 = .ok (.iconst 1, 1) := by decide +kernel
theorem dd_MO_wouldHold_1 : decode bb_MO_wouldHold 1 = .ok (.istore 4, 2) := by decide +kernel
theorem dd_MO_wouldHold_3 : decode bb_MO_wouldHold 3 = .ok (.aload_n 0, 1) := by decide +kernel
theorem dd_MO_wouldHold_4 : decode bb_MO_wouldHold 4 = .ok (.iconst 5, 1) := by decide +kernel
theorem dd_MO_wouldHold_5 : decode bb_MO_wouldHold 5 = .ok (.invokevirtual 60, 3) := by decide +kernel
theorem dd_MO_wouldHold_8 : decode bb_MO_wouldHold 8 = .ok (.istore 5, 2) := by decide +kernel
theorem dd_MO_wouldHold_10 : decode bb_MO_wouldHold 10 = .ok (.iload 5, 2) := by decide +kernel
theorem dd_MO_wouldHold_12 : decode bb_MO_wouldHold 12 = .ok (.aload_n 0, 1) := by decide +kernel
theorem dd_MO_wouldHold_13 : decode bb_MO_wouldHold 13 = .ok (.getfield 31, 3) := by decide +kernel
theorem dd_MO_wouldHold_16 : decode bb_MO_wouldHold 16 = .ok (.iload_n 1, 1) := by decide +kernel
theorem dd_MO_wouldHold_17 : decode bb_MO_wouldHold 17 = .ok (.iaload, 1) := by decide +kernel
theorem dd_MO_wouldHold_18 : decode bb_MO_wouldHold 18 = .ok (.if_icmp .gt 42, 3) := by decide +kernel
theorem dd_MO_wouldHold_21 : decode bb_MO_wouldHold 21 = .ok (.iload 4, 2) := by decide +kernel
theorem dd_MO_wouldHold_23 : decode bb_MO_wouldHold 23 = .ok (.ifCond .eq 28, 3) := by decide +kernel
theorem dd_MO_wouldHold_26 : decode bb_MO_wouldHold 26 = .ok (.aload_n 0, 1) := by decide +kernel
theorem dd_MO_wouldHold_27 : decode bb_MO_wouldHold 27 = .ok (.iload_n 2, 1) := by decide +kernel
theorem dd_MO_wouldHold_28 : decode bb_MO_wouldHold 28 = .ok (.iload_n 3, 1) := by decide +kernel
theorem dd_MO_wouldHold_29 : decode bb_MO_wouldHold 29 = .ok (.iload 5, 2) := by decide +kernel
theorem dd_MO_wouldHold_31 : decode bb_MO_wouldHold 31 = .ok (.invokevirtual 192, 3) := by decide +kernel
theorem dd_MO_wouldHold_34 : decode bb_MO_wouldHold 34 = .ok (.aload_n 0, 1) := by decide +kernel
theorem dd_MO_wouldHold_35 : decode bb_MO_wouldHold 35 = .ok (.bipush 25, 2) := by decide +kernel
theorem dd_MO_wouldHold_37 : decode bb_MO_wouldHold 37 = .ok (.iconst 4, 1) := by decide +kernel
theorem dd_MO_wouldHold_38 : decode bb_MO_wouldHold 38 = .ok (.iload_n 1, 1) := by decide +kernel
theorem dd_MO_wouldHold_39 : decode bb_MO_wouldHold 39 = .ok (.imul, 1) := by decide +kernel
theorem dd_MO_wouldHold_40 : decode bb_MO_wouldHold 40 = .ok (.iadd, 1) := by decide +kernel
theorem dd_MO_wouldHold_41 : decode bb_MO_wouldHold 41 = .ok (.invokevirtual 60, 3) := by decide +kernel
theorem dd_MO_wouldHold_44 : decode bb_MO_wouldHold 44 = .ok (.if_icmp .lt 7, 3) := by decide +kernel
theorem dd_MO_wouldHold_47 : decode bb_MO_wouldHold 47 = .ok (.iconst 1, 1) := by decide +kernel
theorem dd_MO_wouldHold_48 : decode bb_MO_wouldHold 48 = .ok (.goto 4, 3) := by decide +kernel
theorem dd_MO_wouldHold_51 : decode bb_MO_wouldHold 51 = .ok (.iconst 0, 1) := by decide +kernel
theorem dd_MO_wouldHold_52 : decode bb_MO_wouldHold 52 = .ok (.istore 4, 2) := by decide +kernel
theorem dd_MO_wouldHold_54 : decode bb_MO_wouldHold 54 = .ok (.iinc 5 1, 3) := by decide +kernel
theorem dd_MO_wouldHold_57 : decode bb_MO_wouldHold 57 = .ok (.goto (-47), 3) := by decide +kernel
theorem dd_MO_wouldHold_60 : decode bb_MO_wouldHold 60 = .ok (.iload 4, 2) := by decide +kernel
theorem dd_MO_wouldHold_62 : decode bb_MO_wouldHold 62 = .ok (.ireturn, 1) := by decide +kernel
def ff_MO_wouldHold_10  : Nat → St → Nat → Int32 → Int32 → Int32 → Int32 → Int32 → Option (Int32 × St)
  | 0, _, _, _, _, _, _, _ => none
  | n + 1, x, v0, v1, v2, v3, v4, v5 => (if ixb v1 (ln (rf v0 15)) = true then (if (gi x (rf v0 15) (ix v1)) < v5 then (if zb v4 = true then some (v4, x) else none) else (if v4 = 0 then ff_MO_wouldHold_10 n x v0 v1 v2 v3 0 (v5 + 1) else bnd (ff_MO_strength x v0 v2 v3 v5) (fun r_8 x_9 => bnd (ff_MO_get x_9 v0 (25 + (4 * v1))) (fun r_11 x_12 => (if r_8 < r_11 then ff_MO_wouldHold_10 n x_12 v0 v1 v2 v3 0 (v5 + 1) else ff_MO_wouldHold_10 n x_12 v0 v1 v2 v3 1 (v5 + 1)))))) else none)
def ff_MO_wouldHold  (x : St) (v0 : Nat) (v1 : Int32) (v2 : Int32) (v3 : Int32) : Option (Int32 × St) := bnd (ff_MO_get x v0 5) (fun r_1 x_2 => ff_MO_wouldHold_10 FU x_2 v0 v1 v2 v3 1 r_1)
set_option maxHeartbeats 4000000 in
set_option maxRecDepth 100000 in
theorem ww_MO_wouldHold_10 {p : Program} {l : Launch} {e : Env} {s : State} {m : MethodId} {args : Array Value} {below : List Frame} {meth : Method} {c : Code} {E : Ev} {A : Nat → Prop} {ad : Nat → Nat} {r : Int32} {x' : St} (C0 : Cx E A RMO bb_MO_wouldHold 6 (some .boolean) p s m args meth c) (hap : Ap ad ixM A)  : ∀ (n : Nat), ∀ (x : St) (v0 : Nat) (v1 : Int32) (v2 : Int32) (v3 : Int32) (v4 : Int32) (v5 : Int32), (isO ixM v0 6) → ff_MO_wouldHold_10 n x v0 v1 v2 v3 v4 v5 = some (r, x') → ∀ (H : Heap) (locs : List Loc) (ls : Array Slot), Wd E ad ixM x H → va_S A s.heap H locs → lv_has ls 6 [(0, .ref (ad v0)), (1, .int v1), (2, .int v2), (3, .int v3), (4, .int v4), (5, .int v5)] → W p l e rm_MO_wouldHold s m args below meth c H locs 0 0 (MQ below (QX E ad ixM A (some (.int r)) x') args s 0 0 A) (F0 m 10 ls []) := by
  obtain ⟨hx, hb, hml, hr, hown, hts, hlk, hK⟩ := id C0
  intro n
  induction n with
  | zero => intro x v0 v1 v2 v3 v4 v5 ho_v0 hf; exact of_no hf
  | succ n ih =>
    intro x v0 v1 v2 v3 v4 v5 ho_v0 hf H locs ls hP hS hl
    have hf : (if ixb v1 (ln (rf v0 15)) = true then (if (gi x (rf v0 15) (ix v1)) < v5 then (if zb v4 = true then some (v4, x) else none) else (if v4 = 0 then ff_MO_wouldHold_10 n x v0 v1 v2 v3 0 (v5 + 1) else bnd (ff_MO_strength x v0 v2 v3 v5) (fun r_8 x_9 => bnd (ff_MO_get x_9 v0 (25 + (4 * v1))) (fun r_11 x_12 => (if r_8 < r_11 then ff_MO_wouldHold_10 n x_12 v0 v1 v2 v3 0 (v5 + 1) else ff_MO_wouldHold_10 n x_12 v0 v1 v2 v3 1 (v5 + 1)))))) else none) = some (r, x') := hf
    refine lv_iload hx hb dd_MO_wouldHold_10 (lv_at hl 5 rfl) ?_
    refine lv_aload_n hx hb dd_MO_wouldHold_12 rfl (lv_at hl 0 rfl) ?_
    refine gf_MO_31 C0 hP ho_v0 dd_MO_wouldHold_13 ?_
    refine lv_iload_n hx hb dd_MO_wouldHold_16 rfl (lv_at hl 1 rfl) ?_
    obtain ⟨h_4, hf⟩ := of_ifb hf
    refine raI C0 hP (tp_6_15 ho_v0) h_4 dd_MO_wouldHold_17 ?_
    refine lv_icmp_gt (tgt := 60) hx hb dd_MO_wouldHold_18 (by decide) (fun h_5 => ?_) (fun h_5 => ?_)
    · have hf := (if_pos h_5).symm.trans hf
      refine lv_iload hx hb dd_MO_wouldHold_60 (lv_at hl 4 rfl) ?_
      obtain ⟨h_6, hf⟩ := of_ifb hf
      exact rrZ C0 hP hS (zb_or h_6) dd_MO_wouldHold_62 hf
    · have hf := (if_neg h_5).symm.trans hf
      refine lv_iload hx hb dd_MO_wouldHold_21 (lv_at hl 4 rfl) ?_
      refine lv_if_eq (tgt := 51) hx hb dd_MO_wouldHold_23 (by decide) (fun h_7 => ?_) (fun h_7 => ?_)
      · have hf := (if_pos h_7).symm.trans hf
        refine lv_iconst (v := 0) hx hb dd_MO_wouldHold_51 (by decide) ?_
        refine lv_istore (lv' := [(4, .int 0), (0, .ref (ad v0)), (1, .int v1), (2, .int v2), (3, .int v3), (5, .int v5)]) hx hb dd_MO_wouldHold_52 hl (by decide) rfl (fun ls hl => ?_)
        refine lv_iinc (v := v5 + 1) (lv' := [(5, .int (v5 + 1)), (4, .int 0), (0, .ref (ad v0)), (1, .int v1), (2, .int v2), (3, .int v3)]) hx hb dd_MO_wouldHold_54 hl (k := 5) rfl rfl (by decide) rfl (fun ls hl => ?_)
        refine lv_goto (tgt := 10) hx hb dd_MO_wouldHold_57 (by decide) ?_
        exact ih x v0 v1 v2 v3 0 (v5 + 1) ho_v0 hf _ _ _ hP hS (lv_sub hl [2, 3, 4, 5, 1, 0] rfl)
      · have hf := (if_neg h_7).symm.trans hf
        refine lv_aload_n hx hb dd_MO_wouldHold_26 rfl (lv_at hl 0 rfl) ?_
        refine lv_iload_n hx hb dd_MO_wouldHold_27 rfl (lv_at hl 2 rfl) ?_
        refine lv_iload_n hx hb dd_MO_wouldHold_28 rfl (lv_at hl 3 rfl) ?_
        refine lv_iload hx hb dd_MO_wouldHold_29 (lv_at hl 5 rfl) ?_
        obtain ⟨r_8, x_9, c_10, hf⟩ := of_bnd hf
        refine cl_MO_192 C0 hap ho_v0 c_10 hP hS ⟨Nat.le_of_ble_eq_true rfl, Nat.le_of_ble_eq_true rfl⟩ hl.1 (Nat.le_of_ble_eq_true rfl) dd_MO_wouldHold_31 ⟨Nat.le_refl _, Nat.le_refl _⟩ (fun H locs hP hS => ?_)
        refine lv_aload_n hx hb dd_MO_wouldHold_34 rfl (lv_at hl 0 rfl) ?_
        refine lv_bipush (v := 25) hx hb dd_MO_wouldHold_35 (by decide) ?_
        refine lv_iconst (v := 4) hx hb dd_MO_wouldHold_37 (by decide) ?_
        refine lv_iload_n hx hb dd_MO_wouldHold_38 rfl (lv_at hl 1 rfl) ?_
        refine lv_imul hx hb dd_MO_wouldHold_39 ?_
        refine lv_iadd hx hb dd_MO_wouldHold_40 ?_
        obtain ⟨r_11, x_12, c_13, hf⟩ := of_bnd hf
        refine cl_MO_60 C0 hap ho_v0 c_13 hP hS ⟨Nat.le_of_ble_eq_true rfl, Nat.le_of_ble_eq_true rfl⟩ hl.1 (Nat.le_of_ble_eq_true rfl) dd_MO_wouldHold_41 ⟨Nat.le_refl _, Nat.le_refl _⟩ (fun H locs hP hS => ?_)
        refine lv_icmp_lt (tgt := 51) hx hb dd_MO_wouldHold_44 (by decide) (fun h_14 => ?_) (fun h_14 => ?_)
        · have hf := (if_pos h_14).symm.trans hf
          refine lv_iconst (v := 0) hx hb dd_MO_wouldHold_51 (by decide) ?_
          refine lv_istore (lv' := [(4, .int 0), (0, .ref (ad v0)), (1, .int v1), (2, .int v2), (3, .int v3), (5, .int v5)]) hx hb dd_MO_wouldHold_52 hl (by decide) rfl (fun ls hl => ?_)
          refine lv_iinc (v := v5 + 1) (lv' := [(5, .int (v5 + 1)), (4, .int 0), (0, .ref (ad v0)), (1, .int v1), (2, .int v2), (3, .int v3)]) hx hb dd_MO_wouldHold_54 hl (k := 5) rfl rfl (by decide) rfl (fun ls hl => ?_)
          refine lv_goto (tgt := 10) hx hb dd_MO_wouldHold_57 (by decide) ?_
          exact ih x_12 v0 v1 v2 v3 0 (v5 + 1) ho_v0 hf _ _ _ hP hS (lv_sub hl [2, 3, 4, 5, 1, 0] rfl)
        · have hf := (if_neg h_14).symm.trans hf
          refine lv_iconst (v := 1) hx hb dd_MO_wouldHold_47 (by decide) ?_
          refine lv_goto (tgt := 52) hx hb dd_MO_wouldHold_48 (by decide) ?_
          refine lv_istore (lv' := [(4, .int 1), (0, .ref (ad v0)), (1, .int v1), (2, .int v2), (3, .int v3), (5, .int v5)]) hx hb dd_MO_wouldHold_52 hl (by decide) rfl (fun ls hl => ?_)
          refine lv_iinc (v := v5 + 1) (lv' := [(5, .int (v5 + 1)), (4, .int 1), (0, .ref (ad v0)), (1, .int v1), (2, .int v2), (3, .int v3)]) hx hb dd_MO_wouldHold_54 hl (k := 5) rfl rfl (by decide) rfl (fun ls hl => ?_)
          refine lv_goto (tgt := 10) hx hb dd_MO_wouldHold_57 (by decide) ?_
          exact ih x_12 v0 v1 v2 v3 1 (v5 + 1) ho_v0 hf _ _ _ hP hS (lv_sub hl [2, 3, 4, 5, 1, 0] rfl)
set_option maxHeartbeats 4000000 in
set_option maxRecDepth 100000 in
theorem ww_MO_wouldHold {p : Program} {l : Launch} {e : Env} {s : State} {m : MethodId} {args : Array Value} {below : List Frame} {meth : Method} {c : Code} {E : Ev} {A : Nat → Prop} {ad : Nat → Nat} {r : Int32} {x' : St} (C0 : Cx E A RMO bb_MO_wouldHold 6 (some .boolean) p s m args meth c) (hap : Ap ad ixM A)  {x : St} {v0 : Nat} {v1 : Int32} {v2 : Int32} {v3 : Int32} (ho_v0 : isO ixM v0 6) (hf : ff_MO_wouldHold x v0 v1 v2 v3 = some (r, x')) {H : Heap} {locs : List Loc} {ls : Array Slot} (hP : Wd E ad ixM x H) (hS : va_S A s.heap H locs) (hl : lv_has ls 6 [(0, .ref (ad v0)), (1, .int v1), (2, .int v2), (3, .int v3)]) : W p l e rm_MO_wouldHold s m args below meth c H locs 0 0 (MQ below (QX E ad ixM A (some (.int r)) x') args s 0 0 A) (F0 m 0 ls []) := by
  obtain ⟨hx, hb, hml, hr, hown, hts, hlk, hK⟩ := id C0
  have hf : bnd (ff_MO_get x v0 5) (fun r_1 x_2 => ff_MO_wouldHold_10 FU x_2 v0 v1 v2 v3 1 r_1) = some (r, x') := hf
  refine lv_iconst (v := 1) hx hb dd_MO_wouldHold_0 (by decide) ?_
  refine lv_istore (lv' := [(4, .int 1), (0, .ref (ad v0)), (1, .int v1), (2, .int v2), (3, .int v3)]) hx hb dd_MO_wouldHold_1 hl (by decide) rfl (fun ls hl => ?_)
  refine lv_aload_n hx hb dd_MO_wouldHold_3 rfl (lv_at hl 1 rfl) ?_
  refine lv_iconst (v := 5) hx hb dd_MO_wouldHold_4 (by decide) ?_
  obtain ⟨r_1, x_2, c_3, hf⟩ := of_bnd hf
  refine cl_MO_60 C0 hap ho_v0 c_3 hP hS ⟨Nat.le_of_ble_eq_true rfl, Nat.le_of_ble_eq_true rfl⟩ hl.1 (Nat.le_of_ble_eq_true rfl) dd_MO_wouldHold_5 ⟨Nat.le_refl _, Nat.le_refl _⟩ (fun H locs hP hS => ?_)
  refine lv_istore (lv' := [(5, .int r_1), (4, .int 1), (0, .ref (ad v0)), (1, .int v1), (2, .int v2), (3, .int v3)]) hx hb dd_MO_wouldHold_8 hl (by decide) rfl (fun ls hl => ?_)
  exact ww_MO_wouldHold_10 C0 hap  FU x_2 v0 v1 v2 v3 1 r_1 ho_v0 hf _ _ _ hP hS (lv_sub hl [2, 3, 4, 5, 1, 0] rfl)
theorem cc_MO_wouldHold {l : Launch} {E : Ev} {A : Nat → Prop} {ad : Nat → Nat} (hap : Ap ad ixM A) {x x' : St} {v0 : Nat} {v1 : Int32} {v2 : Int32} {v3 : Int32} {r : Int32} (ho_v0 : isO ixM v0 6) (hf : ff_MO_wouldHold x v0 v1 v2 v3 = some (r, x')) : Met l yy_MO_wouldHold (Cond.code yy_MO_wouldHold bb_MO_wouldHold 6 (some .boolean) :: gtb) rm_MO_wouldHold (va_Pc [.ref (ad v0), .int v1, .int v2, .int v3] (PB E A ad ixM x)) (QX E ad ixM A (some (.int r)) x') 0 0 A := by
  exact enter (by decide) (Nat.le_of_ble_eq_true rfl) (fun p e s m below meth c ls C0 hP hS hl => ww_MO_wouldHold C0 hap ho_v0 hf hP hS hl)
theorem cl_MO_204 {p : Program} {l : Launch} {e : Env} {R : Room} {s : State} {m : MethodId} {args : Array Value} {below : List Frame} {meth : Method} {c : Code} {H : Heap} {locs : List Loc} {cells slots : Nat} {Q : State → Prop} {cc : ByteArray} {pc : Nat} {ls : Array Slot} {rest : List Value} {E : Ev} {A : Nat → Prop} {ad : Nat → Nat} {nL : Nat} {rt : Option FieldType} (C0 : Cx E A RMO cc nL rt p s m args meth c) (hap : Ap ad ixM A) {x x' : St} {v0 : Nat} {v1 : Int32} {v2 : Int32} {v3 : Int32} {r : Int32} (ho_v0 : isO ixM v0 6) (hc : ff_MO_wouldHold x v0 v1 v2 v3 = some (r, x')) (hP : Wd E ad ixM x H) (hS : va_S A s.heap H locs) (hR : rm_MO_wouldHold.frames + 1 ≤ R.frames ∧ 8 + (6 + 11) + rm_MO_wouldHold.locals ≤ R.locals) (hls : ls.size = nL) (hroom : (rest.map fun v => v.category).sum ≤ 8) (hdg : decode cc pc = .ok (.invokevirtual 204, 3)) (hf : cells ≤ R.cells ∧ slots ≤ R.slots) (kk : ∀ H1 locs1, Wd E ad ixM x' H1 → va_S A s.heap H1 locs1 → W p l e R s m args below meth c H1 locs1 cells slots Q (F0 m (pc + 3) ls (.int r :: rest))) : W p l e R s m args below meth c H locs cells slots Q (F0 m pc ls (.int v3 :: .int v2 :: .int v1 :: .ref (ad v0) :: rest)) :=
  rcV (n := 3) C0 (cc_MO_wouldHold hap ho_v0 hc) hP hS ho_v0 vcl_6 (by decide) gw_code_MO_wouldHold gw_m_MO_204 gw_inst_MO_wouldHold gw_sel_MO_wouldHold gw_ini_MO rfl rfl (by decide +kernel) rfl hR hls rfl hroom hdg hf (fun H1 locs1 a _ _ b => kk H1 locs1 a b)
abbrev rm_MO_whoOf : Room := { frames := 2, cells := 0, slots := 0, locals := 48 }
theorem dd_MO_whoOf_0 : decode bb_MO_whoOf 0 = .ok (.iconst 0, 1) := by decide +kernel
theorem dd_MO_whoOf_1 : decode bb_MO_whoOf 1 = .ok (.istore_n 3, 1) := by decide +kernel
theorem dd_MO_whoOf_2 : decode bb_MO_whoOf 2 = .ok (.iload_n 3, 1) := by decide +kernel
theorem dd_MO_whoOf_3 : decode bb_MO_whoOf 3 = .ok (.aload_n 0, 1) := by decide +kernel
theorem dd_MO_whoOf_4 : decode bb_MO_whoOf 4 = .ok (.iconst 0, 1) := by decide +kernel
theorem dd_MO_whoOf_5 : decode bb_MO_whoOf 5 = .ok (.invokevirtual 60, 3) := by decide +kernel
theorem dd_MO_whoOf_8 : decode bb_MO_whoOf 8 = .ok (.if_icmp .ge 33, 3) := by decide +kernel
theorem dd_MO_whoOf_11 : decode bb_MO_whoOf 11 = .ok (.iload_n 2, 1) := by decide +kernel
theorem dd_MO_whoOf_12 : decode bb_MO_whoOf 12 = .ok (.iload_n 3, 1) := by decide +kernel
theorem dd_MO_whoOf_13 : decode bb_MO_whoOf 13 = .ok (.ishr, 1) := by decide +kernel
theorem dd_MO_whoOf_14 : decode bb_MO_whoOf 14 = .ok (.iconst 1, 1) := by decide +kernel
theorem dd_MO_whoOf_15 : decode bb_MO_whoOf 15 = .ok (.iand, 1) := by decide +kernel
theorem dd_MO_whoOf_16 : decode bb_MO_whoOf 16 = .ok (.iconst 1, 1) := by decide +kernel
theorem dd_MO_whoOf_17 : decode bb_MO_whoOf 17 = .ok (.if_icmp .ne 18, 3) := by decide +kernel
theorem dd_MO_whoOf_20 : decode bb_MO_whoOf 20 = .ok (.aload_n 0, 1) := by decide +kernel
theorem dd_MO_whoOf_21 : decode bb_MO_whoOf 21 = .ok (.iload_n 1, 1) := by decide +kernel
theorem dd_MO_whoOf_22 : decode bb_MO_whoOf 22 = .ok (.iload_n 3, 1) := by decide +kernel
theorem dd_MO_whoOf_23 : decode bb_MO_whoOf 23 = .ok (.iconst (-1), 1) := by decide +kernel
theorem dd_MO_whoOf_24 : decode bb_MO_whoOf 24 = .ok (.invokevirtual 204, 3) := by decide +kernel
theorem dd_MO_whoOf_27 : decode bb_MO_whoOf 27 = .ok (.ifCond .eq 8, 3) := by decide +kernel
theorem dd_MO_whoOf_30 : decode bb_MO_whoOf 30 = .ok (.bipush 60, 2) := by decide +kernel
theorem dd_MO_whoOf_32 : decode bb_MO_whoOf 32 = .ok (.iload_n 3, 1) := by decide +kernel
theorem dd_MO_whoOf_33 : decode bb_MO_whoOf 33 = .ok (.iadd, 1) := by decide +kernel
theorem dd_MO_whoOf_34 : decode bb_MO_whoOf 34 = .ok (.ireturn, 1) := by decide +kernel
theorem dd_MO_whoOf_35 : decode bb_MO_whoOf 35 = .ok (.iinc 3 1, 3) := by decide +kernel
theorem dd_MO_whoOf_38 : decode bb_MO_whoOf 38 = .ok (.goto (-36), 3) := by decide +kernel
theorem dd_MO_whoOf_41 : decode bb_MO_whoOf 41 = .ok (.iconst 0, 1) := by decide +kernel
theorem dd_MO_whoOf_42 : decode bb_MO_whoOf 42 = .ok (.istore_n 3, 1) := by decide +kernel
theorem dd_MO_whoOf_43 : decode bb_MO_whoOf 43 = .ok (.iload_n 3, 1) := by decide +kernel
theorem dd_MO_whoOf_44 : decode bb_MO_whoOf 44 = .ok (.aload_n 0, 1) := by decide +kernel
theorem dd_MO_whoOf_45 : decode bb_MO_whoOf 45 = .ok (.iconst 0, 1) := by decide +kernel
theorem dd_MO_whoOf_46 : decode bb_MO_whoOf 46 = .ok (.invokevirtual 60, 3) := by decide +kernel
theorem dd_MO_whoOf_49 : decode bb_MO_whoOf 49 = .ok (.if_icmp .ge 68, 3) := by decide +kernel
theorem dd_MO_whoOf_52 : decode bb_MO_whoOf 52 = .ok (.iload_n 3, 1) := by decide +kernel
theorem dd_MO_whoOf_53 : decode bb_MO_whoOf 53 = .ok (.iconst 1, 1) := by decide +kernel
theorem dd_MO_whoOf_54 : decode bb_MO_whoOf 54 = .ok (.iadd, 1) := by decide +kernel
theorem dd_MO_whoOf_55 : decode bb_MO_whoOf 55 = .ok (.istore 4, 2) := by decide +kernel
theorem dd_MO_whoOf_57 : decode bb_MO_whoOf 57 = .ok (.iload 4, 2) := by decide +kernel
theorem dd_MO_whoOf_59 : decode bb_MO_whoOf 59 = .ok (.aload_n 0, 1) := by decide +kernel
theorem dd_MO_whoOf_60 : decode bb_MO_whoOf 60 = .ok (.iconst 0, 1) := by decide +kernel
theorem dd_MO_whoOf_61 : decode bb_MO_whoOf 61 = .ok (.invokevirtual 60, 3) := by decide +kernel
theorem dd_MO_whoOf_64 : decode bb_MO_whoOf 64 = .ok (.if_icmp .ge 47, 3) := by decide +kernel
theorem dd_MO_whoOf_67 : decode bb_MO_whoOf 67 = .ok (.iload_n 2, 1) := by decide +kernel
theorem dd_MO_whoOf_68 : decode bb_MO_whoOf 68 = .ok (.iload_n 3, 1) := by decide +kernel
theorem dd_MO_whoOf_69 : decode bb_MO_whoOf 69 = .ok (.ishr, 1) := by decide +kernel
theorem dd_MO_whoOf_70 : decode bb_MO_whoOf 70 = .ok (.iconst 1, 1) := by decide +kernel
theorem dd_MO_whoOf_71 : decode bb_MO_whoOf 71 = .ok (.iand, 1) := by decide +kernel
theorem dd_MO_whoOf_72 : decode bb_MO_whoOf 72 = .ok (.iconst 1, 1) := by decide +kernel
theorem dd_MO_whoOf_73 : decode bb_MO_whoOf 73 = .ok (.if_icmp .ne 32, 3) := by decide +kernel
theorem dd_MO_whoOf_76 : decode bb_MO_whoOf 76 = .ok (.iload_n 2, 1) := by decide +kernel
theorem dd_MO_whoOf_77 : decode bb_MO_whoOf 77 = .ok (.iload 4, 2) := by decide +kernel
theorem dd_MO_whoOf_79 : decode bb_MO_whoOf 79 = .ok (.ishr, 1) := by decide +kernel
theorem dd_MO_whoOf_80 : decode bb_MO_whoOf 80 = .ok (.iconst 1, 1) := by decide +kernel
theorem dd_MO_whoOf_81 : decode bb_MO_whoOf 81 = .ok (.iand, 1) := by decide +kernel
theorem dd_MO_whoOf_82 : decode bb_MO_whoOf 82 = .ok (.iconst 1, 1) := by decide +kernel
theorem dd_MO_whoOf_83 : decode bb_MO_whoOf 83 = .ok (.if_icmp .ne 22, 3) := by decide +kernel
theorem dd_MO_whoOf_86 : decode bb_MO_whoOf 86 = .ok (.aload_n 0, 1) := by decide +kernel
theorem dd_MO_whoOf_87 : decode bb_MO_whoOf 87 = .ok (.iload_n 1, 1) := by decide +kernel
theorem dd_MO_whoOf_88 : decode bb_MO_whoOf 88 = .ok (.iload_n 3, 1) := by decide +kernel
theorem dd_MO_whoOf_89 : decode bb_MO_whoOf 89 = .ok (.iload 4, 2) := by decide +kernel
theorem dd_MO_whoOf_91 : decode bb_MO_whoOf 91 = .ok (.invokevirtual 204, 3) := by decide +kernel
theorem dd_MO_whoOf_94 : decode bb_MO_whoOf 94 = .ok (.ifCond .eq 11, 3) := by decide +kernel
theorem dd_MO_whoOf_97 : decode bb_MO_whoOf 97 = .ok (.bipush 10, 2) := by decide +kernel
theorem dd_MO_whoOf_99 : decode bb_MO_whoOf 99 = .ok (.iload_n 3, 1) := by decide +kernel
theorem dd_MO_whoOf_100 : decode bb_MO_whoOf 100 = .ok (.imul, 1) := by decide +kernel
theorem dd_MO_whoOf_101 : decode bb_MO_whoOf 101 = .ok (.iload 4, 2) := by decide +kernel
theorem dd_MO_whoOf_103 : decode bb_MO_whoOf 103 = .ok (.iadd, 1) := by decide +kernel
theorem dd_MO_whoOf_104 : decode bb_MO_whoOf 104 = .ok (.ireturn, 1) := by decide +kernel
theorem dd_MO_whoOf_105 : decode bb_MO_whoOf 105 = .ok (.iinc 4 1, 3) := by decide +kernel
theorem dd_MO_whoOf_108 : decode bb_MO_whoOf 108 = .ok (.goto (-51), 3) := by decide +kernel
theorem dd_MO_whoOf_111 : decode bb_MO_whoOf 111 = .ok (.iinc 3 1, 3) := by decide +kernel
theorem dd_MO_whoOf_114 : decode bb_MO_whoOf 114 = .ok (.goto (-71), 3) := by decide +kernel
theorem dd_MO_whoOf_117 : decode bb_MO_whoOf 117 = .ok (.iconst (-1), 1) := by decide +kernel
theorem dd_MO_whoOf_118 : decode bb_MO_whoOf 118 = .ok (.ireturn, 1) := by decide +kernel
def ff_MO_whoOf_97  (x : St) (v3 : Int32) (v4 : Int32) : Option (Int32 × St) := some ((10 * v3) + v4, x)
def ff_MO_whoOf_57 (k_43 : St → Nat → Int32 → Int32 → Int32 → Option (Int32 × St)) : Nat → St → Nat → Int32 → Int32 → Int32 → Int32 → Option (Int32 × St)
  | 0, _, _, _, _, _, _ => none
  | n + 1, x, v0, v1, v2, v3, v4 => bnd (ff_MO_get x v0 0) (fun r_9 x_10 => (if r_9 ≤ v4 then k_43 x_10 v0 v1 v2 (v3 + 1) else (if ((v2 >>> (v3 &&& 31)) &&& 1) = 1 then (if ((v2 >>> (v4 &&& 31)) &&& 1) = 1 then bnd (ff_MO_wouldHold x_10 v0 v1 v3 v4) (fun r_15 x_16 => (if r_15 = 0 then ff_MO_whoOf_57 k_43 n x_16 v0 v1 v2 v3 (v4 + 1) else ff_MO_whoOf_97 x_16 v3 v4)) else ff_MO_whoOf_57 k_43 n x_10 v0 v1 v2 v3 (v4 + 1)) else ff_MO_whoOf_57 k_43 n x_10 v0 v1 v2 v3 (v4 + 1))))
def ff_MO_whoOf_43  : Nat → St → Nat → Int32 → Int32 → Int32 → Option (Int32 × St)
  | 0, _, _, _, _, _ => none
  | n + 1, x, v0, v1, v2, v3 => bnd (ff_MO_get x v0 0) (fun r_5 x_6 => (if r_5 ≤ v3 then some ((-1), x_6) else ff_MO_whoOf_57 (ff_MO_whoOf_43 n) FU x_6 v0 v1 v2 v3 (v3 + 1)))
def ff_MO_whoOf_2  : Nat → St → Nat → Int32 → Int32 → Int32 → Option (Int32 × St)
  | 0, _, _, _, _, _ => none
  | n + 1, x, v0, v1, v2, v3 => bnd (ff_MO_get x v0 0) (fun r_1 x_2 => (if r_1 ≤ v3 then ff_MO_whoOf_43 FU x_2 v0 v1 v2 0 else (if ((v2 >>> (v3 &&& 31)) &&& 1) = 1 then bnd (ff_MO_wouldHold x_2 v0 v1 v3 (-1)) (fun r_20 x_21 => (if r_20 = 0 then ff_MO_whoOf_2 n x_21 v0 v1 v2 (v3 + 1) else some (60 + v3, x_21))) else ff_MO_whoOf_2 n x_2 v0 v1 v2 (v3 + 1))))
def ff_MO_whoOf  (x : St) (v0 : Nat) (v1 : Int32) (v2 : Int32) : Option (Int32 × St) := ff_MO_whoOf_2 FU x v0 v1 v2 0
set_option maxHeartbeats 4000000 in
set_option maxRecDepth 100000 in
theorem ww_MO_whoOf_97 {p : Program} {l : Launch} {e : Env} {s : State} {m : MethodId} {args : Array Value} {below : List Frame} {meth : Method} {c : Code} {E : Ev} {A : Nat → Prop} {ad : Nat → Nat} {r : Int32} {x' : St} (C0 : Cx E A RMO bb_MO_whoOf 5 (some .int) p s m args meth c) (hap : Ap ad ixM A)  {x : St} {v3 : Int32} {v4 : Int32}  (hf : ff_MO_whoOf_97 x v3 v4 = some (r, x')) {H : Heap} {locs : List Loc} {ls : Array Slot} (hP : Wd E ad ixM x H) (hS : va_S A s.heap H locs) (hl : lv_has ls 5 [(3, .int v3), (4, .int v4)]) : W p l e rm_MO_whoOf s m args below meth c H locs 0 0 (MQ below (QX E ad ixM A (some (.int r)) x') args s 0 0 A) (F0 m 97 ls []) := by
  obtain ⟨hx, hb, hml, hr, hown, hts, hlk, hK⟩ := id C0
  have hf : some ((10 * v3) + v4, x) = some (r, x') := hf
  refine lv_bipush (v := 10) hx hb dd_MO_whoOf_97 (by decide) ?_
  refine lv_iload_n hx hb dd_MO_whoOf_99 rfl (lv_at hl 0 rfl) ?_
  refine lv_imul hx hb dd_MO_whoOf_100 ?_
  refine lv_iload hx hb dd_MO_whoOf_101 (lv_at hl 1 rfl) ?_
  refine lv_iadd hx hb dd_MO_whoOf_103 ?_
  exact rrI C0 hP hS dd_MO_whoOf_104 hf
set_option maxHeartbeats 4000000 in
set_option maxRecDepth 100000 in
theorem ww_MO_whoOf_57 {p : Program} {l : Launch} {e : Env} {s : State} {m : MethodId} {args : Array Value} {below : List Frame} {meth : Method} {c : Code} {E : Ev} {A : Nat → Prop} {ad : Nat → Nat} {r : Int32} {x' : St} (C0 : Cx E A RMO bb_MO_whoOf 5 (some .int) p s m args meth c) (hap : Ap ad ixM A) {k_43 : St → Nat → Int32 → Int32 → Int32 → Option (Int32 × St)} (hk_43 : ∀ (x : St) (v0 : Nat) (v1 : Int32) (v2 : Int32) (v3 : Int32), (isO ixM v0 6) → k_43 x v0 v1 v2 v3 = some (r, x') → ∀ (H : Heap) (locs : List Loc) (ls : Array Slot), Wd E ad ixM x H → va_S A s.heap H locs → lv_has ls 5 [(0, .ref (ad v0)), (1, .int v1), (2, .int v2), (3, .int v3)] → W p l e rm_MO_whoOf s m args below meth c H locs 0 0 (MQ below (QX E ad ixM A (some (.int r)) x') args s 0 0 A) (F0 m 43 ls [])) : ∀ (n : Nat), ∀ (x : St) (v0 : Nat) (v1 : Int32) (v2 : Int32) (v3 : Int32) (v4 : Int32), (isO ixM v0 6) → ff_MO_whoOf_57 k_43 n x v0 v1 v2 v3 v4 = some (r, x') → ∀ (H : Heap) (locs : List Loc) (ls : Array Slot), Wd E ad ixM x H → va_S A s.heap H locs → lv_has ls 5 [(0, .ref (ad v0)), (1, .int v1), (2, .int v2), (3, .int v3), (4, .int v4)] → W p l e rm_MO_whoOf s m args below meth c H locs 0 0 (MQ below (QX E ad ixM A (some (.int r)) x') args s 0 0 A) (F0 m 57 ls []) := by
  obtain ⟨hx, hb, hml, hr, hown, hts, hlk, hK⟩ := id C0
  intro n
  induction n with
  | zero => intro x v0 v1 v2 v3 v4 ho_v0 hf; exact of_no hf
  | succ n ih =>
    intro x v0 v1 v2 v3 v4 ho_v0 hf H locs ls hP hS hl
    have hf : bnd (ff_MO_get x v0 0) (fun r_9 x_10 => (if r_9 ≤ v4 then k_43 x_10 v0 v1 v2 (v3 + 1) else (if ((v2 >>> (v3 &&& 31)) &&& 1) = 1 then (if ((v2 >>> (v4 &&& 31)) &&& 1) = 1 then bnd (ff_MO_wouldHold x_10 v0 v1 v3 v4) (fun r_15 x_16 => (if r_15 = 0 then ff_MO_whoOf_57 k_43 n x_16 v0 v1 v2 v3 (v4 + 1) else ff_MO_whoOf_97 x_16 v3 v4)) else ff_MO_whoOf_57 k_43 n x_10 v0 v1 v2 v3 (v4 + 1)) else ff_MO_whoOf_57 k_43 n x_10 v0 v1 v2 v3 (v4 + 1)))) = some (r, x') := hf
    refine lv_iload hx hb dd_MO_whoOf_57 (lv_at hl 4 rfl) ?_
    refine lv_aload_n hx hb dd_MO_whoOf_59 rfl (lv_at hl 0 rfl) ?_
    refine lv_iconst (v := 0) hx hb dd_MO_whoOf_60 (by decide) ?_
    obtain ⟨r_9, x_10, c_11, hf⟩ := of_bnd hf
    refine cl_MO_60 C0 hap ho_v0 c_11 hP hS ⟨Nat.le_of_ble_eq_true rfl, Nat.le_of_ble_eq_true rfl⟩ hl.1 (Nat.le_of_ble_eq_true rfl) dd_MO_whoOf_61 ⟨Nat.le_refl _, Nat.le_refl _⟩ (fun H locs hP hS => ?_)
    refine lv_icmp_ge (tgt := 111) hx hb dd_MO_whoOf_64 (by decide) (fun h_12 => ?_) (fun h_12 => ?_)
    · have hf := (if_pos h_12).symm.trans hf
      refine lv_iinc (v := v3 + 1) (lv' := [(3, .int (v3 + 1)), (0, .ref (ad v0)), (1, .int v1), (2, .int v2), (4, .int v4)]) hx hb dd_MO_whoOf_111 hl (k := 3) rfl rfl (by decide) rfl (fun ls hl => ?_)
      refine lv_goto (tgt := 43) hx hb dd_MO_whoOf_114 (by decide) ?_
      exact hk_43 x_10 v0 v1 v2 (v3 + 1) ho_v0 hf _ _ _ hP hS (lv_sub hl [1, 2, 3, 0] rfl)
    · have hf := (if_neg h_12).symm.trans hf
      refine lv_iload_n hx hb dd_MO_whoOf_67 rfl (lv_at hl 2 rfl) ?_
      refine lv_iload_n hx hb dd_MO_whoOf_68 rfl (lv_at hl 3 rfl) ?_
      refine lv_ishr hx hb dd_MO_whoOf_69 ?_
      refine lv_iconst (v := 1) hx hb dd_MO_whoOf_70 (by decide) ?_
      refine lv_iand hx hb dd_MO_whoOf_71 ?_
      refine lv_iconst (v := 1) hx hb dd_MO_whoOf_72 (by decide) ?_
      refine lv_icmp_ne (tgt := 105) hx hb dd_MO_whoOf_73 (by decide) (fun h_13 => ?_) (fun h_13 => ?_)
      · have hf := (if_neg h_13).symm.trans hf
        refine lv_iinc (v := v4 + 1) (lv' := [(4, .int (v4 + 1)), (0, .ref (ad v0)), (1, .int v1), (2, .int v2), (3, .int v3)]) hx hb dd_MO_whoOf_105 hl (k := 4) rfl rfl (by decide) rfl (fun ls hl => ?_)
        refine lv_goto (tgt := 57) hx hb dd_MO_whoOf_108 (by decide) ?_
        exact ih x_10 v0 v1 v2 v3 (v4 + 1) ho_v0 hf _ _ _ hP hS (lv_sub hl [1, 2, 3, 4, 0] rfl)
      · have hf := (if_pos h_13).symm.trans hf
        refine lv_iload_n hx hb dd_MO_whoOf_76 rfl (lv_at hl 2 rfl) ?_
        refine lv_iload hx hb dd_MO_whoOf_77 (lv_at hl 4 rfl) ?_
        refine lv_ishr hx hb dd_MO_whoOf_79 ?_
        refine lv_iconst (v := 1) hx hb dd_MO_whoOf_80 (by decide) ?_
        refine lv_iand hx hb dd_MO_whoOf_81 ?_
        refine lv_iconst (v := 1) hx hb dd_MO_whoOf_82 (by decide) ?_
        refine lv_icmp_ne (tgt := 105) hx hb dd_MO_whoOf_83 (by decide) (fun h_14 => ?_) (fun h_14 => ?_)
        · have hf := (if_neg h_14).symm.trans hf
          refine lv_iinc (v := v4 + 1) (lv' := [(4, .int (v4 + 1)), (0, .ref (ad v0)), (1, .int v1), (2, .int v2), (3, .int v3)]) hx hb dd_MO_whoOf_105 hl (k := 4) rfl rfl (by decide) rfl (fun ls hl => ?_)
          refine lv_goto (tgt := 57) hx hb dd_MO_whoOf_108 (by decide) ?_
          exact ih x_10 v0 v1 v2 v3 (v4 + 1) ho_v0 hf _ _ _ hP hS (lv_sub hl [1, 2, 3, 4, 0] rfl)
        · have hf := (if_pos h_14).symm.trans hf
          refine lv_aload_n hx hb dd_MO_whoOf_86 rfl (lv_at hl 0 rfl) ?_
          refine lv_iload_n hx hb dd_MO_whoOf_87 rfl (lv_at hl 1 rfl) ?_
          refine lv_iload_n hx hb dd_MO_whoOf_88 rfl (lv_at hl 3 rfl) ?_
          refine lv_iload hx hb dd_MO_whoOf_89 (lv_at hl 4 rfl) ?_
          obtain ⟨r_15, x_16, c_17, hf⟩ := of_bnd hf
          refine cl_MO_204 C0 hap ho_v0 c_17 hP hS ⟨Nat.le_of_ble_eq_true rfl, Nat.le_of_ble_eq_true rfl⟩ hl.1 (Nat.le_of_ble_eq_true rfl) dd_MO_whoOf_91 ⟨Nat.le_refl _, Nat.le_refl _⟩ (fun H locs hP hS => ?_)
          refine lv_if_eq (tgt := 105) hx hb dd_MO_whoOf_94 (by decide) (fun h_18 => ?_) (fun h_18 => ?_)
          · have hf := (if_pos h_18).symm.trans hf
            refine lv_iinc (v := v4 + 1) (lv' := [(4, .int (v4 + 1)), (0, .ref (ad v0)), (1, .int v1), (2, .int v2), (3, .int v3)]) hx hb dd_MO_whoOf_105 hl (k := 4) rfl rfl (by decide) rfl (fun ls hl => ?_)
            refine lv_goto (tgt := 57) hx hb dd_MO_whoOf_108 (by decide) ?_
            exact ih x_16 v0 v1 v2 v3 (v4 + 1) ho_v0 hf _ _ _ hP hS (lv_sub hl [1, 2, 3, 4, 0] rfl)
          · have hf := (if_neg h_18).symm.trans hf
            exact ww_MO_whoOf_97 C0 hap   hf hP hS (lv_sub hl [3, 4] rfl)
set_option maxHeartbeats 4000000 in
set_option maxRecDepth 100000 in
theorem ww_MO_whoOf_43 {p : Program} {l : Launch} {e : Env} {s : State} {m : MethodId} {args : Array Value} {below : List Frame} {meth : Method} {c : Code} {E : Ev} {A : Nat → Prop} {ad : Nat → Nat} {r : Int32} {x' : St} (C0 : Cx E A RMO bb_MO_whoOf 5 (some .int) p s m args meth c) (hap : Ap ad ixM A)  : ∀ (n : Nat), ∀ (x : St) (v0 : Nat) (v1 : Int32) (v2 : Int32) (v3 : Int32), (isO ixM v0 6) → ff_MO_whoOf_43 n x v0 v1 v2 v3 = some (r, x') → ∀ (H : Heap) (locs : List Loc) (ls : Array Slot), Wd E ad ixM x H → va_S A s.heap H locs → lv_has ls 5 [(0, .ref (ad v0)), (1, .int v1), (2, .int v2), (3, .int v3)] → W p l e rm_MO_whoOf s m args below meth c H locs 0 0 (MQ below (QX E ad ixM A (some (.int r)) x') args s 0 0 A) (F0 m 43 ls []) := by
  obtain ⟨hx, hb, hml, hr, hown, hts, hlk, hK⟩ := id C0
  intro n
  induction n with
  | zero => intro x v0 v1 v2 v3 ho_v0 hf; exact of_no hf
  | succ n ih =>
    intro x v0 v1 v2 v3 ho_v0 hf H locs ls hP hS hl
    have hf : bnd (ff_MO_get x v0 0) (fun r_5 x_6 => (if r_5 ≤ v3 then some ((-1), x_6) else ff_MO_whoOf_57 (ff_MO_whoOf_43 n) FU x_6 v0 v1 v2 v3 (v3 + 1))) = some (r, x') := hf
    refine lv_iload_n hx hb dd_MO_whoOf_43 rfl (lv_at hl 3 rfl) ?_
    refine lv_aload_n hx hb dd_MO_whoOf_44 rfl (lv_at hl 0 rfl) ?_
    refine lv_iconst (v := 0) hx hb dd_MO_whoOf_45 (by decide) ?_
    obtain ⟨r_5, x_6, c_7, hf⟩ := of_bnd hf
    refine cl_MO_60 C0 hap ho_v0 c_7 hP hS ⟨Nat.le_of_ble_eq_true rfl, Nat.le_of_ble_eq_true rfl⟩ hl.1 (Nat.le_of_ble_eq_true rfl) dd_MO_whoOf_46 ⟨Nat.le_refl _, Nat.le_refl _⟩ (fun H locs hP hS => ?_)
    refine lv_icmp_ge (tgt := 117) hx hb dd_MO_whoOf_49 (by decide) (fun h_8 => ?_) (fun h_8 => ?_)
    · have hf := (if_pos h_8).symm.trans hf
      refine lv_iconst (v := -1) hx hb dd_MO_whoOf_117 (by decide) ?_
      exact rrI C0 hP hS dd_MO_whoOf_118 hf
    · have hf := (if_neg h_8).symm.trans hf
      refine lv_iload_n hx hb dd_MO_whoOf_52 rfl (lv_at hl 3 rfl) ?_
      refine lv_iconst (v := 1) hx hb dd_MO_whoOf_53 (by decide) ?_
      refine lv_iadd hx hb dd_MO_whoOf_54 ?_
      refine lv_istore (lv' := [(4, .int (v3 + 1)), (0, .ref (ad v0)), (1, .int v1), (2, .int v2), (3, .int v3)]) hx hb dd_MO_whoOf_55 hl (by decide) rfl (fun ls hl => ?_)
      exact ww_MO_whoOf_57 C0 hap ih FU x_6 v0 v1 v2 v3 (v3 + 1) ho_v0 hf _ _ _ hP hS (lv_sub hl [1, 2, 3, 4, 0] rfl)
set_option maxHeartbeats 4000000 in
set_option maxRecDepth 100000 in
theorem ww_MO_whoOf_2 {p : Program} {l : Launch} {e : Env} {s : State} {m : MethodId} {args : Array Value} {below : List Frame} {meth : Method} {c : Code} {E : Ev} {A : Nat → Prop} {ad : Nat → Nat} {r : Int32} {x' : St} (C0 : Cx E A RMO bb_MO_whoOf 5 (some .int) p s m args meth c) (hap : Ap ad ixM A)  : ∀ (n : Nat), ∀ (x : St) (v0 : Nat) (v1 : Int32) (v2 : Int32) (v3 : Int32), (isO ixM v0 6) → ff_MO_whoOf_2 n x v0 v1 v2 v3 = some (r, x') → ∀ (H : Heap) (locs : List Loc) (ls : Array Slot), Wd E ad ixM x H → va_S A s.heap H locs → lv_has ls 5 [(0, .ref (ad v0)), (1, .int v1), (2, .int v2), (3, .int v3)] → W p l e rm_MO_whoOf s m args below meth c H locs 0 0 (MQ below (QX E ad ixM A (some (.int r)) x') args s 0 0 A) (F0 m 2 ls []) := by
  obtain ⟨hx, hb, hml, hr, hown, hts, hlk, hK⟩ := id C0
  intro n
  induction n with
  | zero => intro x v0 v1 v2 v3 ho_v0 hf; exact of_no hf
  | succ n ih =>
    intro x v0 v1 v2 v3 ho_v0 hf H locs ls hP hS hl
    have hf : bnd (ff_MO_get x v0 0) (fun r_1 x_2 => (if r_1 ≤ v3 then ff_MO_whoOf_43 FU x_2 v0 v1 v2 0 else (if ((v2 >>> (v3 &&& 31)) &&& 1) = 1 then bnd (ff_MO_wouldHold x_2 v0 v1 v3 (-1)) (fun r_20 x_21 => (if r_20 = 0 then ff_MO_whoOf_2 n x_21 v0 v1 v2 (v3 + 1) else some (60 + v3, x_21))) else ff_MO_whoOf_2 n x_2 v0 v1 v2 (v3 + 1)))) = some (r, x') := hf
    refine lv_iload_n hx hb dd_MO_whoOf_2 rfl (lv_at hl 3 rfl) ?_
    refine lv_aload_n hx hb dd_MO_whoOf_3 rfl (lv_at hl 0 rfl) ?_
    refine lv_iconst (v := 0) hx hb dd_MO_whoOf_4 (by decide) ?_
    obtain ⟨r_1, x_2, c_3, hf⟩ := of_bnd hf
    refine cl_MO_60 C0 hap ho_v0 c_3 hP hS ⟨Nat.le_of_ble_eq_true rfl, Nat.le_of_ble_eq_true rfl⟩ hl.1 (Nat.le_of_ble_eq_true rfl) dd_MO_whoOf_5 ⟨Nat.le_refl _, Nat.le_refl _⟩ (fun H locs hP hS => ?_)
    refine lv_icmp_ge (tgt := 41) hx hb dd_MO_whoOf_8 (by decide) (fun h_4 => ?_) (fun h_4 => ?_)
    · have hf := (if_pos h_4).symm.trans hf
      refine lv_iconst (v := 0) hx hb dd_MO_whoOf_41 (by decide) ?_
      refine lv_istore_n (lv' := [(3, .int 0), (0, .ref (ad v0)), (1, .int v1), (2, .int v2)]) hx hb dd_MO_whoOf_42 rfl hl (by decide) rfl (fun ls hl => ?_)
      exact ww_MO_whoOf_43 C0 hap  FU x_2 v0 v1 v2 0 ho_v0 hf _ _ _ hP hS (lv_sub hl [1, 2, 3, 0] rfl)
    · have hf := (if_neg h_4).symm.trans hf
      refine lv_iload_n hx hb dd_MO_whoOf_11 rfl (lv_at hl 2 rfl) ?_
      refine lv_iload_n hx hb dd_MO_whoOf_12 rfl (lv_at hl 3 rfl) ?_
      refine lv_ishr hx hb dd_MO_whoOf_13 ?_
      refine lv_iconst (v := 1) hx hb dd_MO_whoOf_14 (by decide) ?_
      refine lv_iand hx hb dd_MO_whoOf_15 ?_
      refine lv_iconst (v := 1) hx hb dd_MO_whoOf_16 (by decide) ?_
      refine lv_icmp_ne (tgt := 35) hx hb dd_MO_whoOf_17 (by decide) (fun h_19 => ?_) (fun h_19 => ?_)
      · have hf := (if_neg h_19).symm.trans hf
        refine lv_iinc (v := v3 + 1) (lv' := [(3, .int (v3 + 1)), (0, .ref (ad v0)), (1, .int v1), (2, .int v2)]) hx hb dd_MO_whoOf_35 hl (k := 3) rfl rfl (by decide) rfl (fun ls hl => ?_)
        refine lv_goto (tgt := 2) hx hb dd_MO_whoOf_38 (by decide) ?_
        exact ih x_2 v0 v1 v2 (v3 + 1) ho_v0 hf _ _ _ hP hS (lv_sub hl [1, 2, 3, 0] rfl)
      · have hf := (if_pos h_19).symm.trans hf
        refine lv_aload_n hx hb dd_MO_whoOf_20 rfl (lv_at hl 0 rfl) ?_
        refine lv_iload_n hx hb dd_MO_whoOf_21 rfl (lv_at hl 1 rfl) ?_
        refine lv_iload_n hx hb dd_MO_whoOf_22 rfl (lv_at hl 3 rfl) ?_
        refine lv_iconst (v := -1) hx hb dd_MO_whoOf_23 (by decide) ?_
        obtain ⟨r_20, x_21, c_22, hf⟩ := of_bnd hf
        refine cl_MO_204 C0 hap ho_v0 c_22 hP hS ⟨Nat.le_of_ble_eq_true rfl, Nat.le_of_ble_eq_true rfl⟩ hl.1 (Nat.le_of_ble_eq_true rfl) dd_MO_whoOf_24 ⟨Nat.le_refl _, Nat.le_refl _⟩ (fun H locs hP hS => ?_)
        refine lv_if_eq (tgt := 35) hx hb dd_MO_whoOf_27 (by decide) (fun h_23 => ?_) (fun h_23 => ?_)
        · have hf := (if_pos h_23).symm.trans hf
          refine lv_iinc (v := v3 + 1) (lv' := [(3, .int (v3 + 1)), (0, .ref (ad v0)), (1, .int v1), (2, .int v2)]) hx hb dd_MO_whoOf_35 hl (k := 3) rfl rfl (by decide) rfl (fun ls hl => ?_)
          refine lv_goto (tgt := 2) hx hb dd_MO_whoOf_38 (by decide) ?_
          exact ih x_21 v0 v1 v2 (v3 + 1) ho_v0 hf _ _ _ hP hS (lv_sub hl [1, 2, 3, 0] rfl)
        · have hf := (if_neg h_23).symm.trans hf
          refine lv_bipush (v := 60) hx hb dd_MO_whoOf_30 (by decide) ?_
          refine lv_iload_n hx hb dd_MO_whoOf_32 rfl (lv_at hl 3 rfl) ?_
          refine lv_iadd hx hb dd_MO_whoOf_33 ?_
          exact rrI C0 hP hS dd_MO_whoOf_34 hf
set_option maxHeartbeats 4000000 in
set_option maxRecDepth 100000 in
theorem ww_MO_whoOf {p : Program} {l : Launch} {e : Env} {s : State} {m : MethodId} {args : Array Value} {below : List Frame} {meth : Method} {c : Code} {E : Ev} {A : Nat → Prop} {ad : Nat → Nat} {r : Int32} {x' : St} (C0 : Cx E A RMO bb_MO_whoOf 5 (some .int) p s m args meth c) (hap : Ap ad ixM A)  {x : St} {v0 : Nat} {v1 : Int32} {v2 : Int32} (ho_v0 : isO ixM v0 6) (hf : ff_MO_whoOf x v0 v1 v2 = some (r, x')) {H : Heap} {locs : List Loc} {ls : Array Slot} (hP : Wd E ad ixM x H) (hS : va_S A s.heap H locs) (hl : lv_has ls 5 [(0, .ref (ad v0)), (1, .int v1), (2, .int v2)]) : W p l e rm_MO_whoOf s m args below meth c H locs 0 0 (MQ below (QX E ad ixM A (some (.int r)) x') args s 0 0 A) (F0 m 0 ls []) := by
  obtain ⟨hx, hb, hml, hr, hown, hts, hlk, hK⟩ := id C0
  have hf : ff_MO_whoOf_2 FU x v0 v1 v2 0 = some (r, x') := hf
  refine lv_iconst (v := 0) hx hb dd_MO_whoOf_0 (by decide) ?_
  refine lv_istore_n (lv' := [(3, .int 0), (0, .ref (ad v0)), (1, .int v1), (2, .int v2)]) hx hb dd_MO_whoOf_1 rfl hl (by decide) rfl (fun ls hl => ?_)
  exact ww_MO_whoOf_2 C0 hap  FU x v0 v1 v2 0 ho_v0 hf _ _ _ hP hS (lv_sub hl [1, 2, 3, 0] rfl)
theorem cc_MO_whoOf {l : Launch} {E : Ev} {A : Nat → Prop} {ad : Nat → Nat} (hap : Ap ad ixM A) {x x' : St} {v0 : Nat} {v1 : Int32} {v2 : Int32} {r : Int32} (ho_v0 : isO ixM v0 6) (hf : ff_MO_whoOf x v0 v1 v2 = some (r, x')) : Met l yy_MO_whoOf (Cond.code yy_MO_whoOf bb_MO_whoOf 5 (some .int) :: gtb) rm_MO_whoOf (va_Pc [.ref (ad v0), .int v1, .int v2] (PB E A ad ixM x)) (QX E ad ixM A (some (.int r)) x') 0 0 A := by
  exact enter (by decide) (Nat.le_of_ble_eq_true rfl) (fun p e s m below meth c ls C0 hP hS hl => ww_MO_whoOf C0 hap ho_v0 hf hP hS hl)
abbrev rm_MO_priceOf : Room := { frames := 1, cells := 0, slots := 0, locals := 21 }
theorem dd_MO_priceOf_0 : decode bb_MO_priceOf 0 = .ok (.iconst 0, 1) := by decide +kernel
theorem dd_MO_priceOf_1 : decode bb_MO_priceOf 1 = .ok (.istore_n 2, 1) := by decide +kernel
theorem dd_MO_priceOf_2 : decode bb_MO_priceOf 2 = .ok (.iconst 0, 1) := by decide +kernel
theorem dd_MO_priceOf_3 : decode bb_MO_priceOf 3 = .ok (.istore_n 3, 1) := by decide +kernel
theorem dd_MO_priceOf_4 : decode bb_MO_priceOf 4 = .ok (.iload_n 3, 1) := by decide +kernel
theorem dd_MO_priceOf_5 : decode bb_MO_priceOf 5 = .ok (.aload_n 0, 1) := by decide +kernel
theorem dd_MO_priceOf_6 : decode bb_MO_priceOf 6 = .ok (.iconst 0, 1) := by decide +kernel
theorem dd_MO_priceOf_7 : decode bb_MO_priceOf 7 = .ok (.invokevirtual 60, 3) := by decide +kernel
theorem dd_MO_priceOf_10 : decode bb_MO_priceOf 10 = .ok (.if_icmp .ge 30, 3) := by decide +kernel
theorem dd_MO_priceOf_13 : decode bb_MO_priceOf 13 = .ok (.iload_n 2, 1) := by decide +kernel
theorem dd_MO_priceOf_14 : decode bb_MO_priceOf 14 = .ok (.iload_n 1, 1) := by decide +kernel
theorem dd_MO_priceOf_15 : decode bb_MO_priceOf 15 = .ok (.iload_n 3, 1) := by decide +kernel
theorem dd_MO_priceOf_16 : decode bb_MO_priceOf 16 = .ok (.ishr, 1) := by decide +kernel
theorem dd_MO_priceOf_17 : decode bb_MO_priceOf 17 = .ok (.iconst 1, 1) := by decide +kernel
theorem dd_MO_priceOf_18 : decode bb_MO_priceOf 18 = .ok (.iand, 1) := by decide +kernel
theorem dd_MO_priceOf_19 : decode bb_MO_priceOf 19 = .ok (.aload_n 0, 1) := by decide +kernel
theorem dd_MO_priceOf_20 : decode bb_MO_priceOf 20 = .ok (.bipush 7, 2) := by decide +kernel
theorem dd_MO_priceOf_22 : decode bb_MO_priceOf 22 = .ok (.iconst 3, 1) := by decide +kernel
theorem dd_MO_priceOf_23 : decode bb_MO_priceOf 23 = .ok (.iload_n 3, 1) := by decide +kernel
theorem dd_MO_priceOf_24 : decode bb_MO_priceOf 24 = .ok (.imul, 1) := by decide +kernel
theorem dd_MO_priceOf_25 : decode bb_MO_priceOf 25 = .ok (.iadd, 1) := by decide +kernel
theorem dd_MO_priceOf_26 : decode bb_MO_priceOf 26 = .ok (.iconst 2, 1) := by decide +kernel
theorem dd_MO_priceOf_27 : decode bb_MO_priceOf 27 = .ok (.iadd, 1) := by decide +kernel
theorem dd_MO_priceOf_28 : decode bb_MO_priceOf 28 = .ok (.invokevirtual 60, 3) := by decide +kernel
theorem dd_MO_priceOf_31 : decode bb_MO_priceOf 31 = .ok (.imul, 1) := by decide +kernel
theorem dd_MO_priceOf_32 : decode bb_MO_priceOf 32 = .ok (.iadd, 1) := by decide +kernel
theorem dd_MO_priceOf_33 : decode bb_MO_priceOf 33 = .ok (.istore_n 2, 1) := by decide +kernel
theorem dd_MO_priceOf_34 : decode bb_MO_priceOf 34 = .ok (.iinc 3 1, 3) := by decide +kernel
theorem dd_MO_priceOf_37 : decode bb_MO_priceOf 37 = .ok (.goto (-33), 3) := by decide +kernel
theorem dd_MO_priceOf_40 : decode bb_MO_priceOf 40 = .ok (.iload_n 2, 1) := by decide +kernel
theorem dd_MO_priceOf_41 : decode bb_MO_priceOf 41 = .ok (.ireturn, 1) := by decide +kernel
def ff_MO_priceOf_4  : Nat → St → Nat → Int32 → Int32 → Int32 → Option (Int32 × St)
  | 0, _, _, _, _, _ => none
  | n + 1, x, v0, v1, v2, v3 => bnd (ff_MO_get x v0 0) (fun r_1 x_2 => (if r_1 ≤ v3 then some (v2, x_2) else bnd (ff_MO_get x_2 v0 ((7 + (3 * v3)) + 2)) (fun r_5 x_6 => li (v2 + (((v1 >>> (v3 &&& 31)) &&& 1) * r_5)) (fun u_8 => ff_MO_priceOf_4 n x_6 v0 v1 u_8 (v3 + 1)))))
def ff_MO_priceOf  (x : St) (v0 : Nat) (v1 : Int32) : Option (Int32 × St) := ff_MO_priceOf_4 FU x v0 v1 0 0
set_option maxHeartbeats 4000000 in
set_option maxRecDepth 100000 in
theorem ww_MO_priceOf_4 {p : Program} {l : Launch} {e : Env} {s : State} {m : MethodId} {args : Array Value} {below : List Frame} {meth : Method} {c : Code} {E : Ev} {A : Nat → Prop} {ad : Nat → Nat} {r : Int32} {x' : St} (C0 : Cx E A RMO bb_MO_priceOf 4 (some .int) p s m args meth c) (hap : Ap ad ixM A)  : ∀ (n : Nat), ∀ (x : St) (v0 : Nat) (v1 : Int32) (v2 : Int32) (v3 : Int32), (isO ixM v0 6) → ff_MO_priceOf_4 n x v0 v1 v2 v3 = some (r, x') → ∀ (H : Heap) (locs : List Loc) (ls : Array Slot), Wd E ad ixM x H → va_S A s.heap H locs → lv_has ls 4 [(0, .ref (ad v0)), (1, .int v1), (2, .int v2), (3, .int v3)] → W p l e rm_MO_priceOf s m args below meth c H locs 0 0 (MQ below (QX E ad ixM A (some (.int r)) x') args s 0 0 A) (F0 m 4 ls []) := by
  obtain ⟨hx, hb, hml, hr, hown, hts, hlk, hK⟩ := id C0
  intro n
  induction n with
  | zero => intro x v0 v1 v2 v3 ho_v0 hf; exact of_no hf
  | succ n ih =>
    intro x v0 v1 v2 v3 ho_v0 hf H locs ls hP hS hl
    have hf : bnd (ff_MO_get x v0 0) (fun r_1 x_2 => (if r_1 ≤ v3 then some (v2, x_2) else bnd (ff_MO_get x_2 v0 ((7 + (3 * v3)) + 2)) (fun r_5 x_6 => li (v2 + (((v1 >>> (v3 &&& 31)) &&& 1) * r_5)) (fun u_8 => ff_MO_priceOf_4 n x_6 v0 v1 u_8 (v3 + 1))))) = some (r, x') := hf
    refine lv_iload_n hx hb dd_MO_priceOf_4 rfl (lv_at hl 3 rfl) ?_
    refine lv_aload_n hx hb dd_MO_priceOf_5 rfl (lv_at hl 0 rfl) ?_
    refine lv_iconst (v := 0) hx hb dd_MO_priceOf_6 (by decide) ?_
    obtain ⟨r_1, x_2, c_3, hf⟩ := of_bnd hf
    refine cl_MO_60 C0 hap ho_v0 c_3 hP hS ⟨Nat.le_of_ble_eq_true rfl, Nat.le_of_ble_eq_true rfl⟩ hl.1 (Nat.le_of_ble_eq_true rfl) dd_MO_priceOf_7 ⟨Nat.le_refl _, Nat.le_refl _⟩ (fun H locs hP hS => ?_)
    refine lv_icmp_ge (tgt := 40) hx hb dd_MO_priceOf_10 (by decide) (fun h_4 => ?_) (fun h_4 => ?_)
    · have hf := (if_pos h_4).symm.trans hf
      refine lv_iload_n hx hb dd_MO_priceOf_40 rfl (lv_at hl 2 rfl) ?_
      exact rrI C0 hP hS dd_MO_priceOf_41 hf
    · have hf := (if_neg h_4).symm.trans hf
      refine lv_iload_n hx hb dd_MO_priceOf_13 rfl (lv_at hl 2 rfl) ?_
      refine lv_iload_n hx hb dd_MO_priceOf_14 rfl (lv_at hl 1 rfl) ?_
      refine lv_iload_n hx hb dd_MO_priceOf_15 rfl (lv_at hl 3 rfl) ?_
      refine lv_ishr hx hb dd_MO_priceOf_16 ?_
      refine lv_iconst (v := 1) hx hb dd_MO_priceOf_17 (by decide) ?_
      refine lv_iand hx hb dd_MO_priceOf_18 ?_
      refine lv_aload_n hx hb dd_MO_priceOf_19 rfl (lv_at hl 0 rfl) ?_
      refine lv_bipush (v := 7) hx hb dd_MO_priceOf_20 (by decide) ?_
      refine lv_iconst (v := 3) hx hb dd_MO_priceOf_22 (by decide) ?_
      refine lv_iload_n hx hb dd_MO_priceOf_23 rfl (lv_at hl 3 rfl) ?_
      refine lv_imul hx hb dd_MO_priceOf_24 ?_
      refine lv_iadd hx hb dd_MO_priceOf_25 ?_
      refine lv_iconst (v := 2) hx hb dd_MO_priceOf_26 (by decide) ?_
      refine lv_iadd hx hb dd_MO_priceOf_27 ?_
      obtain ⟨r_5, x_6, c_7, hf⟩ := of_bnd hf
      refine cl_MO_60 C0 hap ho_v0 c_7 hP hS ⟨Nat.le_of_ble_eq_true rfl, Nat.le_of_ble_eq_true rfl⟩ hl.1 (Nat.le_of_ble_eq_true rfl) dd_MO_priceOf_28 ⟨Nat.le_refl _, Nat.le_refl _⟩ (fun H locs hP hS => ?_)
      refine lv_imul hx hb dd_MO_priceOf_31 ?_
      refine lv_iadd hx hb dd_MO_priceOf_32 ?_
      obtain ⟨u_8, eu_8, hf⟩ := of_li hf
      refine tpi eu_8 ?_
      refine lv_istore_n (lv' := [(2, .int u_8), (0, .ref (ad v0)), (1, .int v1), (3, .int v3)]) hx hb dd_MO_priceOf_33 rfl hl (by decide) rfl (fun ls hl => ?_)
      refine lv_iinc (v := v3 + 1) (lv' := [(3, .int (v3 + 1)), (2, .int u_8), (0, .ref (ad v0)), (1, .int v1)]) hx hb dd_MO_priceOf_34 hl (k := 3) rfl rfl (by decide) rfl (fun ls hl => ?_)
      refine lv_goto (tgt := 4) hx hb dd_MO_priceOf_37 (by decide) ?_
      exact ih x_6 v0 v1 u_8 (v3 + 1) ho_v0 hf _ _ _ hP hS (lv_sub hl [2, 3, 1, 0] rfl)
set_option maxHeartbeats 4000000 in
set_option maxRecDepth 100000 in
theorem ww_MO_priceOf {p : Program} {l : Launch} {e : Env} {s : State} {m : MethodId} {args : Array Value} {below : List Frame} {meth : Method} {c : Code} {E : Ev} {A : Nat → Prop} {ad : Nat → Nat} {r : Int32} {x' : St} (C0 : Cx E A RMO bb_MO_priceOf 4 (some .int) p s m args meth c) (hap : Ap ad ixM A)  {x : St} {v0 : Nat} {v1 : Int32} (ho_v0 : isO ixM v0 6) (hf : ff_MO_priceOf x v0 v1 = some (r, x')) {H : Heap} {locs : List Loc} {ls : Array Slot} (hP : Wd E ad ixM x H) (hS : va_S A s.heap H locs) (hl : lv_has ls 4 [(0, .ref (ad v0)), (1, .int v1)]) : W p l e rm_MO_priceOf s m args below meth c H locs 0 0 (MQ below (QX E ad ixM A (some (.int r)) x') args s 0 0 A) (F0 m 0 ls []) := by
  obtain ⟨hx, hb, hml, hr, hown, hts, hlk, hK⟩ := id C0
  have hf : ff_MO_priceOf_4 FU x v0 v1 0 0 = some (r, x') := hf
  refine lv_iconst (v := 0) hx hb dd_MO_priceOf_0 (by decide) ?_
  refine lv_istore_n (lv' := [(2, .int 0), (0, .ref (ad v0)), (1, .int v1)]) hx hb dd_MO_priceOf_1 rfl hl (by decide) rfl (fun ls hl => ?_)
  refine lv_iconst (v := 0) hx hb dd_MO_priceOf_2 (by decide) ?_
  refine lv_istore_n (lv' := [(3, .int 0), (2, .int 0), (0, .ref (ad v0)), (1, .int v1)]) hx hb dd_MO_priceOf_3 rfl hl (by decide) rfl (fun ls hl => ?_)
  exact ww_MO_priceOf_4 C0 hap  FU x v0 v1 0 0 ho_v0 hf _ _ _ hP hS (lv_sub hl [2, 3, 1, 0] rfl)
theorem cc_MO_priceOf {l : Launch} {E : Ev} {A : Nat → Prop} {ad : Nat → Nat} (hap : Ap ad ixM A) {x x' : St} {v0 : Nat} {v1 : Int32} {r : Int32} (ho_v0 : isO ixM v0 6) (hf : ff_MO_priceOf x v0 v1 = some (r, x')) : Met l yy_MO_priceOf (Cond.code yy_MO_priceOf bb_MO_priceOf 4 (some .int) :: gtb) rm_MO_priceOf (va_Pc [.ref (ad v0), .int v1] (PB E A ad ixM x)) (QX E ad ixM A (some (.int r)) x') 0 0 A := by
  exact enter (by decide) (Nat.le_of_ble_eq_true rfl) (fun p e s m below meth c ls C0 hP hS hl => ww_MO_priceOf C0 hap ho_v0 hf hP hS hl)
theorem cl_MO_207 {p : Program} {l : Launch} {e : Env} {R : Room} {s : State} {m : MethodId} {args : Array Value} {below : List Frame} {meth : Method} {c : Code} {H : Heap} {locs : List Loc} {cells slots : Nat} {Q : State → Prop} {cc : ByteArray} {pc : Nat} {ls : Array Slot} {rest : List Value} {E : Ev} {A : Nat → Prop} {ad : Nat → Nat} {nL : Nat} {rt : Option FieldType} (C0 : Cx E A RMO cc nL rt p s m args meth c) (hap : Ap ad ixM A) {x x' : St} {v0 : Nat} {v1 : Int32} {r : Int32} (ho_v0 : isO ixM v0 6) (hc : ff_MO_priceOf x v0 v1 = some (r, x')) (hP : Wd E ad ixM x H) (hS : va_S A s.heap H locs) (hR : rm_MO_priceOf.frames + 1 ≤ R.frames ∧ 8 + (4 + 11) + rm_MO_priceOf.locals ≤ R.locals) (hls : ls.size = nL) (hroom : (rest.map fun v => v.category).sum ≤ 8) (hdg : decode cc pc = .ok (.invokevirtual 207, 3)) (hf : cells ≤ R.cells ∧ slots ≤ R.slots) (kk : ∀ H1 locs1, Wd E ad ixM x' H1 → va_S A s.heap H1 locs1 → W p l e R s m args below meth c H1 locs1 cells slots Q (F0 m (pc + 3) ls (.int r :: rest))) : W p l e R s m args below meth c H locs cells slots Q (F0 m pc ls (.int v1 :: .ref (ad v0) :: rest)) :=
  rcV (n := 1) C0 (cc_MO_priceOf hap ho_v0 hc) hP hS ho_v0 vcl_6 (by decide) gw_code_MO_priceOf gw_m_MO_207 gw_inst_MO_priceOf gw_sel_MO_priceOf gw_ini_MO rfl rfl (by decide +kernel) rfl hR hls rfl hroom hdg hf (fun H1 locs1 a _ _ b => kk H1 locs1 a b)
theorem cl_MO_210 {p : Program} {l : Launch} {e : Env} {R : Room} {s : State} {m : MethodId} {args : Array Value} {below : List Frame} {meth : Method} {c : Code} {H : Heap} {locs : List Loc} {cells slots : Nat} {Q : State → Prop} {cc : ByteArray} {pc : Nat} {ls : Array Slot} {rest : List Value} {E : Ev} {A : Nat → Prop} {ad : Nat → Nat} {nL : Nat} {rt : Option FieldType} (C0 : Cx E A RMO cc nL rt p s m args meth c) (hap : Ap ad ixM A) {x x' : St} {v0 : Nat} {v1 : Int32} {v2 : Int32} {r : Int32} (ho_v0 : isO ixM v0 6) (hc : ff_MO_whoOf x v0 v1 v2 = some (r, x')) (hP : Wd E ad ixM x H) (hS : va_S A s.heap H locs) (hR : rm_MO_whoOf.frames + 1 ≤ R.frames ∧ 8 + (5 + 11) + rm_MO_whoOf.locals ≤ R.locals) (hls : ls.size = nL) (hroom : (rest.map fun v => v.category).sum ≤ 8) (hdg : decode cc pc = .ok (.invokevirtual 210, 3)) (hf : cells ≤ R.cells ∧ slots ≤ R.slots) (kk : ∀ H1 locs1, Wd E ad ixM x' H1 → va_S A s.heap H1 locs1 → W p l e R s m args below meth c H1 locs1 cells slots Q (F0 m (pc + 3) ls (.int r :: rest))) : W p l e R s m args below meth c H locs cells slots Q (F0 m pc ls (.int v2 :: .int v1 :: .ref (ad v0) :: rest)) :=
  rcV (n := 2) C0 (cc_MO_whoOf hap ho_v0 hc) hP hS ho_v0 vcl_6 (by decide) gw_code_MO_whoOf gw_m_MO_210 gw_inst_MO_whoOf gw_sel_MO_whoOf gw_ini_MO rfl rfl (by decide +kernel) rfl hR hls rfl hroom hdg hf (fun H1 locs1 a _ _ b => kk H1 locs1 a b)
abbrev rm_MO_hired : Room := { frames := 3, cells := 0, slots := 0, locals := 72 }
theorem dd_MO_hired_0 : decode bb_MO_hired 0 = .ok (.iconst (-1), 1) := by decide +kernel
theorem dd_MO_hired_1 : decode bb_MO_hired 1 = .ok (.istore_n 2, 1) := by decide +kernel
theorem dd_MO_hired_2 : decode bb_MO_hired 2 = .ok (.iconst 0, 1) := by decide +kernel
theorem dd_MO_hired_3 : decode bb_MO_hired 3 = .ok (.istore_n 3, 1) := by decide +kernel
theorem dd_MO_hired_4 : decode bb_MO_hired 4 = .ok (.iload_n 3, 1) := by decide +kernel
theorem dd_MO_hired_5 : decode bb_MO_hired 5 = .ok (.iconst 1, 1) := by decide +kernel
theorem dd_MO_hired_6 : decode bb_MO_hired 6 = .ok (.aload_n 0, 1) := by decide +kernel
theorem dd_MO_hired_7 : decode bb_MO_hired 7 = .ok (.iconst 0, 1) := by decide +kernel
theorem dd_MO_hired_8 : decode bb_MO_hired 8 = .ok (.invokevirtual 60, 3) := by decide +kernel
theorem dd_MO_hired_11 : decode bb_MO_hired 11 = .ok (.ishl, 1) := by decide +kernel
theorem dd_MO_hired_12 : decode bb_MO_hired 12 = .ok (.if_icmp .ge 123, 3) := by decide +kernel
theorem dd_MO_hired_15 : decode bb_MO_hired 15 = .ok (.iload_n 1, 1) := by decide +kernel
theorem dd_MO_hired_16 : decode bb_MO_hired 16 = .ok (.iconst (-1), 1) := by decide +kernel
theorem dd_MO_hired_17 : decode bb_MO_hired 17 = .ok (.if_icmp .eq 11, 3) := by decide +kernel
theorem dd_MO_hired_20 : decode bb_MO_hired 20 = .ok (.iload_n 3, 1) := by decide +kernel
theorem dd_MO_hired_21 : decode bb_MO_hired 21 = .ok (.iload_n 1, 1) := by decide +kernel
theorem dd_MO_hired_22 : decode bb_MO_hired 22 = .ok (.ishr, 1) := by decide +kernel
theorem dd_MO_hired_23 : decode bb_MO_hired 23 = .ok (.iconst 1, 1) := by decide +kernel
theorem dd_MO_hired_24 : decode bb_MO_hired 24 = .ok (.iand, 1) := by decide +kernel
theorem dd_MO_hired_25 : decode bb_MO_hired 25 = .ok (.ifCond .ne 7, 3) := by decide +kernel
theorem dd_MO_hired_28 : decode bb_MO_hired 28 = .ok (.iconst 1, 1) := by decide +kernel
theorem dd_MO_hired_29 : decode bb_MO_hired 29 = .ok (.goto 4, 3) := by decide +kernel
theorem dd_MO_hired_32 : decode bb_MO_hired 32 = .ok (.iconst 0, 1) := by decide +kernel
theorem dd_MO_hired_33 : decode bb_MO_hired 33 = .ok (.istore 4, 2) := by decide +kernel
theorem dd_MO_hired_35 : decode bb_MO_hired 35 = .ok (.iload 4, 2) := by decide +kernel
theorem dd_MO_hired_37 : decode bb_MO_hired 37 = .ok (.ifCond .eq 25, 3) := by decide +kernel
theorem dd_MO_hired_40 : decode bb_MO_hired 40 = .ok (.iload_n 2, 1) := by decide +kernel
theorem dd_MO_hired_41 : decode bb_MO_hired 41 = .ok (.iconst (-1), 1) := by decide +kernel
theorem dd_MO_hired_42 : decode bb_MO_hired 42 = .ok (.if_icmp .eq 16, 3) := by decide +kernel
theorem dd_MO_hired_45 : decode bb_MO_hired 45 = .ok (.aload_n 0, 1) := by decide +kernel
theorem dd_MO_hired_46 : decode bb_MO_hired 46 = .ok (.iload_n 3, 1) := by decide +kernel
theorem dd_MO_hired_47 : decode bb_MO_hired 47 = .ok (.invokevirtual 207, 3) := by decide +kernel
theorem dd_MO_hired_50 : decode bb_MO_hired 50 = .ok (.aload_n 0, 1) := by decide +kernel
theorem dd_MO_hired_51 : decode bb_MO_hired 51 = .ok (.iload_n 2, 1) := by decide +kernel
theorem dd_MO_hired_52 : decode bb_MO_hired 52 = .ok (.invokevirtual 207, 3) := by decide +kernel
theorem dd_MO_hired_55 : decode bb_MO_hired 55 = .ok (.if_icmp .ge 7, 3) := by decide +kernel
theorem dd_MO_hired_58 : decode bb_MO_hired 58 = .ok (.iconst 1, 1) := by decide +kernel
theorem dd_MO_hired_59 : decode bb_MO_hired 59 = .ok (.goto 4, 3) := by decide +kernel
theorem dd_MO_hired_62 : decode bb_MO_hired 62 = .ok (.iconst 0, 1) := by decide +kernel
theorem dd_MO_hired_63 : decode bb_MO_hired 63 = .ok (.istore 4, 2) := by decide +kernel
theorem dd_MO_hired_65 : decode bb_MO_hired 65 = .ok (.iconst 0, 1) := by decide +kernel
theorem dd_MO_hired_66 : decode bb_MO_hired 66 = .ok (.istore 5, 2) := by decide +kernel
theorem dd_MO_hired_68 : decode bb_MO_hired 68 = .ok (.iload 5, 2) := by decide +kernel
theorem dd_MO_hired_70 : decode bb_MO_hired 70 = .ok (.aload_n 0, 1) := by decide +kernel
theorem dd_MO_hired_71 : decode bb_MO_hired 71 = .ok (.iconst 1, 1) := by decide +kernel
theorem dd_MO_hired_72 : decode bb_MO_hired 72 = .ok (.invokevirtual 60, 3) := by decide +kernel
theorem dd_MO_hired_75 : decode bb_MO_hired 75 = .ok (.if_icmp .ge 43, 3) := by decide +kernel
theorem dd_MO_hired_78 : decode bb_MO_hired 78 = .ok (.iload 4, 2) := by decide +kernel
theorem dd_MO_hired_80 : decode bb_MO_hired 80 = .ok (.ifCond .eq 38, 3) := by decide +kernel
theorem dd_MO_hired_83 : decode bb_MO_hired 83 = .ok (.aload_n 0, 1) := by decide +kernel
theorem dd_MO_hired_84 : decode bb_MO_hired 84 = .ok (.getfield 31, 3) := by decide +kernel
theorem dd_MO_hired_87 : decode bb_MO_hired 87 = .ok (.iload 5, 2) := by decide +kernel
theorem dd_MO_hired_89 : decode bb_MO_hired 89 = .ok (.iaload, 1) := by decide +kernel
theorem dd_MO_hired_90 : decode bb_MO_hired 90 = .ok (.iconst (-1), 1) := by decide +kernel
theorem dd_MO_hired_91 : decode bb_MO_hired 91 = .ok (.if_icmp .eq 14, 3) := by decide +kernel
theorem dd_MO_hired_94 : decode bb_MO_hired 94 = .ok (.aload_n 0, 1) := by decide +kernel
theorem dd_MO_hired_95 : decode bb_MO_hired 95 = .ok (.iload 5, 2) := by decide +kernel
theorem dd_MO_hired_97 : decode bb_MO_hired 97 = .ok (.iload_n 3, 1) := by decide +kernel
theorem dd_MO_hired_98 : decode bb_MO_hired 98 = .ok (.invokevirtual 210, 3) := by decide +kernel
theorem dd_MO_hired_101 : decode bb_MO_hired 101 = .ok (.iconst (-1), 1) := by decide +kernel
theorem dd_MO_hired_102 : decode bb_MO_hired 102 = .ok (.if_icmp .eq 7, 3) := by decide +kernel
theorem dd_MO_hired_105 : decode bb_MO_hired 105 = .ok (.iconst 1, 1) := by decide +kernel
theorem dd_MO_hired_106 : decode bb_MO_hired 106 = .ok (.goto 4, 3) := by decide +kernel
theorem dd_MO_hired_109 : decode bb_MO_hired 109 = .ok (.iconst 0, 1) := by decide +kernel
theorem dd_MO_hired_110 : decode bb_MO_hired 110 = .ok (.istore 4, 2) := by decide +kernel
theorem dd_MO_hired_112 : decode bb_MO_hired 112 = .ok (.iinc 5 1, 3) := by decide +kernel
theorem dd_MO_hired_115 : decode bb_MO_hired 115 = .ok (.goto (-47), 3) := by decide +kernel
theorem dd_MO_hired_118 : decode bb_MO_hired 118 = .ok (.iload 4, 2) := by decide +kernel
theorem dd_MO_hired_120 : decode bb_MO_hired 120 = .ok (.ifCond .eq 7, 3) := by decide +kernel
theorem dd_MO_hired_123 : decode bb_MO_hired 123 = .ok (.iload_n 3, 1) := by decide +kernel
theorem dd_MO_hired_124 : decode bb_MO_hired 124 = .ok (.goto 4, 3) := by decide +kernel
theorem dd_MO_hired_127 : decode bb_MO_hired 127 = .ok (.iload_n 2, 1) := by decide +kernel
theorem dd_MO_hired_128 : decode bb_MO_hired 128 = .ok (.istore_n 2, 1) := by decide +kernel
theorem dd_MO_hired_129 : decode bb_MO_hired 129 = .ok (.iinc 3 1, 3) := by decide +kernel
theorem dd_MO_hired_132 : decode bb_MO_hired 132 = .ok (.goto (-128), 3) := by decide +kernel
theorem dd_MO_hired_135 : decode bb_MO_hired 135 = .ok (.iload_n 2, 1) := by decide +kernel
theorem dd_MO_hired_136 : decode bb_MO_hired 136 = .ok (.ireturn, 1) := by decide +kernel
def ff_MO_hired_118 (k_4 : St → Nat → Int32 → Int32 → Int32 → Option (Int32 × St)) (x : St) (v0 : Nat) (v1 : Int32) (v2 : Int32) (v3 : Int32) (v4 : Int32) : Option (Int32 × St) := (if v4 = 0 then k_4 x v0 v1 v2 (v3 + 1) else k_4 x v0 v1 v3 (v3 + 1))
def ff_MO_hired_68 (k_4 : St → Nat → Int32 → Int32 → Int32 → Option (Int32 × St)) : Nat → St → Nat → Int32 → Int32 → Int32 → Int32 → Int32 → Option (Int32 × St)
  | 0, _, _, _, _, _, _, _ => none
  | n + 1, x, v0, v1, v2, v3, v4, v5 => bnd (ff_MO_get x v0 1) (fun r_7 x_8 => (if r_7 ≤ v5 then ff_MO_hired_118 k_4 x_8 v0 v1 v2 v3 v4 else (if v4 = 0 then ff_MO_hired_118 k_4 x_8 v0 v1 v2 v3 v4 else (if ixb v5 (ln (rf v0 15)) = true then (if (gi x_8 (rf v0 15) (ix v5)) = (-1) then ff_MO_hired_68 k_4 n x_8 v0 v1 v2 v3 1 (v5 + 1) else bnd (ff_MO_whoOf x_8 v0 v5 v3) (fun r_15 x_16 => (if r_15 = (-1) then ff_MO_hired_68 k_4 n x_16 v0 v1 v2 v3 0 (v5 + 1) else ff_MO_hired_68 k_4 n x_16 v0 v1 v2 v3 1 (v5 + 1)))) else none))))
def ff_MO_hired_33 (k_4 : St → Nat → Int32 → Int32 → Int32 → Option (Int32 × St)) (x : St) (v0 : Nat) (v1 : Int32) (v2 : Int32) (v3 : Int32) (w0 : Int32) : Option (Int32 × St) := (if w0 = 0 then ff_MO_hired_68 k_4 FU x v0 v1 v2 v3 0 0 else (if v2 = (-1) then ff_MO_hired_68 k_4 FU x v0 v1 v2 v3 1 0 else bnd (ff_MO_priceOf x v0 v3) (fun r_20 x_21 => bnd (ff_MO_priceOf x_21 v0 v2) (fun r_23 x_24 => (if r_23 ≤ r_20 then ff_MO_hired_68 k_4 FU x_24 v0 v1 v2 v3 0 0 else ff_MO_hired_68 k_4 FU x_24 v0 v1 v2 v3 1 0)))))
def ff_MO_hired_28 (k_4 : St → Nat → Int32 → Int32 → Int32 → Option (Int32 × St)) (x : St) (v0 : Nat) (v1 : Int32) (v2 : Int32) (v3 : Int32) : Option (Int32 × St) := ff_MO_hired_33 k_4 x v0 v1 v2 v3 1
def ff_MO_hired_4  : Nat → St → Nat → Int32 → Int32 → Int32 → Option (Int32 × St)
  | 0, _, _, _, _, _ => none
  | n + 1, x, v0, v1, v2, v3 => bnd (ff_MO_get x v0 0) (fun r_1 x_2 => (if (1 <<< (r_1 &&& 31)) ≤ v3 then some (v2, x_2) else (if v1 = (-1) then ff_MO_hired_28 (ff_MO_hired_4 n) x_2 v0 v1 v2 v3 else (if ((v3 >>> (v1 &&& 31)) &&& 1) = 0 then ff_MO_hired_28 (ff_MO_hired_4 n) x_2 v0 v1 v2 v3 else ff_MO_hired_33 (ff_MO_hired_4 n) x_2 v0 v1 v2 v3 0))))
def ff_MO_hired  (x : St) (v0 : Nat) (v1 : Int32) : Option (Int32 × St) := ff_MO_hired_4 FU x v0 v1 (-1) 0
set_option maxHeartbeats 4000000 in
set_option maxRecDepth 100000 in
theorem ww_MO_hired_118 {p : Program} {l : Launch} {e : Env} {s : State} {m : MethodId} {args : Array Value} {below : List Frame} {meth : Method} {c : Code} {E : Ev} {A : Nat → Prop} {ad : Nat → Nat} {r : Int32} {x' : St} (C0 : Cx E A RMO bb_MO_hired 6 (some .int) p s m args meth c) (hap : Ap ad ixM A) {k_4 : St → Nat → Int32 → Int32 → Int32 → Option (Int32 × St)} (hk_4 : ∀ (x : St) (v0 : Nat) (v1 : Int32) (v2 : Int32) (v3 : Int32), (isO ixM v0 6) → k_4 x v0 v1 v2 v3 = some (r, x') → ∀ (H : Heap) (locs : List Loc) (ls : Array Slot), Wd E ad ixM x H → va_S A s.heap H locs → lv_has ls 6 [(0, .ref (ad v0)), (1, .int v1), (2, .int v2), (3, .int v3)] → W p l e rm_MO_hired s m args below meth c H locs 0 0 (MQ below (QX E ad ixM A (some (.int r)) x') args s 0 0 A) (F0 m 4 ls [])) {x : St} {v0 : Nat} {v1 : Int32} {v2 : Int32} {v3 : Int32} {v4 : Int32} (ho_v0 : isO ixM v0 6) (hf : ff_MO_hired_118 k_4 x v0 v1 v2 v3 v4 = some (r, x')) {H : Heap} {locs : List Loc} {ls : Array Slot} (hP : Wd E ad ixM x H) (hS : va_S A s.heap H locs) (hl : lv_has ls 6 [(0, .ref (ad v0)), (1, .int v1), (2, .int v2), (3, .int v3), (4, .int v4)]) : W p l e rm_MO_hired s m args below meth c H locs 0 0 (MQ below (QX E ad ixM A (some (.int r)) x') args s 0 0 A) (F0 m 118 ls []) := by
  obtain ⟨hx, hb, hml, hr, hown, hts, hlk, hK⟩ := id C0
  have hf : (if v4 = 0 then k_4 x v0 v1 v2 (v3 + 1) else k_4 x v0 v1 v3 (v3 + 1)) = some (r, x') := hf
  refine lv_iload hx hb dd_MO_hired_118 (lv_at hl 4 rfl) ?_
  refine lv_if_eq (tgt := 127) hx hb dd_MO_hired_120 (by decide) (fun h_11 => ?_) (fun h_11 => ?_)
  · have hf := (if_pos h_11).symm.trans hf
    refine lv_iload_n hx hb dd_MO_hired_127 rfl (lv_at hl 2 rfl) ?_
    refine lv_istore_n (lv' := [(2, .int v2), (0, .ref (ad v0)), (1, .int v1), (3, .int v3), (4, .int v4)]) hx hb dd_MO_hired_128 rfl hl (by decide) rfl (fun ls hl => ?_)
    refine lv_iinc (v := v3 + 1) (lv' := [(3, .int (v3 + 1)), (2, .int v2), (0, .ref (ad v0)), (1, .int v1), (4, .int v4)]) hx hb dd_MO_hired_129 hl (k := 3) rfl rfl (by decide) rfl (fun ls hl => ?_)
    refine lv_goto (tgt := 4) hx hb dd_MO_hired_132 (by decide) ?_
    exact hk_4 x v0 v1 v2 (v3 + 1) ho_v0 hf _ _ _ hP hS (lv_sub hl [2, 3, 1, 0] rfl)
  · have hf := (if_neg h_11).symm.trans hf
    refine lv_iload_n hx hb dd_MO_hired_123 rfl (lv_at hl 3 rfl) ?_
    refine lv_goto (tgt := 128) hx hb dd_MO_hired_124 (by decide) ?_
    refine lv_istore_n (lv' := [(2, .int v3), (0, .ref (ad v0)), (1, .int v1), (3, .int v3), (4, .int v4)]) hx hb dd_MO_hired_128 rfl hl (by decide) rfl (fun ls hl => ?_)
    refine lv_iinc (v := v3 + 1) (lv' := [(3, .int (v3 + 1)), (2, .int v3), (0, .ref (ad v0)), (1, .int v1), (4, .int v4)]) hx hb dd_MO_hired_129 hl (k := 3) rfl rfl (by decide) rfl (fun ls hl => ?_)
    refine lv_goto (tgt := 4) hx hb dd_MO_hired_132 (by decide) ?_
    exact hk_4 x v0 v1 v3 (v3 + 1) ho_v0 hf _ _ _ hP hS (lv_sub hl [2, 3, 1, 0] rfl)
set_option maxHeartbeats 4000000 in
set_option maxRecDepth 100000 in
theorem ww_MO_hired_68 {p : Program} {l : Launch} {e : Env} {s : State} {m : MethodId} {args : Array Value} {below : List Frame} {meth : Method} {c : Code} {E : Ev} {A : Nat → Prop} {ad : Nat → Nat} {r : Int32} {x' : St} (C0 : Cx E A RMO bb_MO_hired 6 (some .int) p s m args meth c) (hap : Ap ad ixM A) {k_4 : St → Nat → Int32 → Int32 → Int32 → Option (Int32 × St)} (hk_4 : ∀ (x : St) (v0 : Nat) (v1 : Int32) (v2 : Int32) (v3 : Int32), (isO ixM v0 6) → k_4 x v0 v1 v2 v3 = some (r, x') → ∀ (H : Heap) (locs : List Loc) (ls : Array Slot), Wd E ad ixM x H → va_S A s.heap H locs → lv_has ls 6 [(0, .ref (ad v0)), (1, .int v1), (2, .int v2), (3, .int v3)] → W p l e rm_MO_hired s m args below meth c H locs 0 0 (MQ below (QX E ad ixM A (some (.int r)) x') args s 0 0 A) (F0 m 4 ls [])) : ∀ (n : Nat), ∀ (x : St) (v0 : Nat) (v1 : Int32) (v2 : Int32) (v3 : Int32) (v4 : Int32) (v5 : Int32), (isO ixM v0 6) → ff_MO_hired_68 k_4 n x v0 v1 v2 v3 v4 v5 = some (r, x') → ∀ (H : Heap) (locs : List Loc) (ls : Array Slot), Wd E ad ixM x H → va_S A s.heap H locs → lv_has ls 6 [(0, .ref (ad v0)), (1, .int v1), (2, .int v2), (3, .int v3), (4, .int v4), (5, .int v5)] → W p l e rm_MO_hired s m args below meth c H locs 0 0 (MQ below (QX E ad ixM A (some (.int r)) x') args s 0 0 A) (F0 m 68 ls []) := by
  obtain ⟨hx, hb, hml, hr, hown, hts, hlk, hK⟩ := id C0
  intro n
  induction n with
  | zero => intro x v0 v1 v2 v3 v4 v5 ho_v0 hf; exact of_no hf
  | succ n ih =>
    intro x v0 v1 v2 v3 v4 v5 ho_v0 hf H locs ls hP hS hl
    have hf : bnd (ff_MO_get x v0 1) (fun r_7 x_8 => (if r_7 ≤ v5 then ff_MO_hired_118 k_4 x_8 v0 v1 v2 v3 v4 else (if v4 = 0 then ff_MO_hired_118 k_4 x_8 v0 v1 v2 v3 v4 else (if ixb v5 (ln (rf v0 15)) = true then (if (gi x_8 (rf v0 15) (ix v5)) = (-1) then ff_MO_hired_68 k_4 n x_8 v0 v1 v2 v3 1 (v5 + 1) else bnd (ff_MO_whoOf x_8 v0 v5 v3) (fun r_15 x_16 => (if r_15 = (-1) then ff_MO_hired_68 k_4 n x_16 v0 v1 v2 v3 0 (v5 + 1) else ff_MO_hired_68 k_4 n x_16 v0 v1 v2 v3 1 (v5 + 1)))) else none)))) = some (r, x') := hf
    refine lv_iload hx hb dd_MO_hired_68 (lv_at hl 5 rfl) ?_
    refine lv_aload_n hx hb dd_MO_hired_70 rfl (lv_at hl 0 rfl) ?_
    refine lv_iconst (v := 1) hx hb dd_MO_hired_71 (by decide) ?_
    obtain ⟨r_7, x_8, c_9, hf⟩ := of_bnd hf
    refine cl_MO_60 C0 hap ho_v0 c_9 hP hS ⟨Nat.le_of_ble_eq_true rfl, Nat.le_of_ble_eq_true rfl⟩ hl.1 (Nat.le_of_ble_eq_true rfl) dd_MO_hired_72 ⟨Nat.le_refl _, Nat.le_refl _⟩ (fun H locs hP hS => ?_)
    refine lv_icmp_ge (tgt := 118) hx hb dd_MO_hired_75 (by decide) (fun h_10 => ?_) (fun h_10 => ?_)
    · have hf := (if_pos h_10).symm.trans hf
      exact ww_MO_hired_118 C0 hap hk_4 ho_v0 hf hP hS (lv_sub hl [0, 1, 2, 3, 4] rfl)
    · have hf := (if_neg h_10).symm.trans hf
      refine lv_iload hx hb dd_MO_hired_78 (lv_at hl 4 rfl) ?_
      refine lv_if_eq (tgt := 118) hx hb dd_MO_hired_80 (by decide) (fun h_12 => ?_) (fun h_12 => ?_)
      · have hf := (if_pos h_12).symm.trans hf
        exact ww_MO_hired_118 C0 hap hk_4 ho_v0 hf hP hS (lv_sub hl [0, 1, 2, 3, 4] rfl)
      · have hf := (if_neg h_12).symm.trans hf
        refine lv_aload_n hx hb dd_MO_hired_83 rfl (lv_at hl 0 rfl) ?_
        refine gf_MO_31 C0 hP ho_v0 dd_MO_hired_84 ?_
        refine lv_iload hx hb dd_MO_hired_87 (lv_at hl 5 rfl) ?_
        obtain ⟨h_13, hf⟩ := of_ifb hf
        refine raI C0 hP (tp_6_15 ho_v0) h_13 dd_MO_hired_89 ?_
        refine lv_iconst (v := -1) hx hb dd_MO_hired_90 (by decide) ?_
        refine lv_icmp_eq (tgt := 105) hx hb dd_MO_hired_91 (by decide) (fun h_14 => ?_) (fun h_14 => ?_)
        · have hf := (if_pos h_14).symm.trans hf
          refine lv_iconst (v := 1) hx hb dd_MO_hired_105 (by decide) ?_
          refine lv_goto (tgt := 110) hx hb dd_MO_hired_106 (by decide) ?_
          refine lv_istore (lv' := [(4, .int 1), (0, .ref (ad v0)), (1, .int v1), (2, .int v2), (3, .int v3), (5, .int v5)]) hx hb dd_MO_hired_110 hl (by decide) rfl (fun ls hl => ?_)
          refine lv_iinc (v := v5 + 1) (lv' := [(5, .int (v5 + 1)), (4, .int 1), (0, .ref (ad v0)), (1, .int v1), (2, .int v2), (3, .int v3)]) hx hb dd_MO_hired_112 hl (k := 5) rfl rfl (by decide) rfl (fun ls hl => ?_)
          refine lv_goto (tgt := 68) hx hb dd_MO_hired_115 (by decide) ?_
          exact ih x_8 v0 v1 v2 v3 1 (v5 + 1) ho_v0 hf _ _ _ hP hS (lv_sub hl [2, 3, 4, 5, 1, 0] rfl)
        · have hf := (if_neg h_14).symm.trans hf
          refine lv_aload_n hx hb dd_MO_hired_94 rfl (lv_at hl 0 rfl) ?_
          refine lv_iload hx hb dd_MO_hired_95 (lv_at hl 5 rfl) ?_
          refine lv_iload_n hx hb dd_MO_hired_97 rfl (lv_at hl 3 rfl) ?_
          obtain ⟨r_15, x_16, c_17, hf⟩ := of_bnd hf
          refine cl_MO_210 C0 hap ho_v0 c_17 hP hS ⟨Nat.le_of_ble_eq_true rfl, Nat.le_of_ble_eq_true rfl⟩ hl.1 (Nat.le_of_ble_eq_true rfl) dd_MO_hired_98 ⟨Nat.le_refl _, Nat.le_refl _⟩ (fun H locs hP hS => ?_)
          refine lv_iconst (v := -1) hx hb dd_MO_hired_101 (by decide) ?_
          refine lv_icmp_eq (tgt := 109) hx hb dd_MO_hired_102 (by decide) (fun h_18 => ?_) (fun h_18 => ?_)
          · have hf := (if_pos h_18).symm.trans hf
            refine lv_iconst (v := 0) hx hb dd_MO_hired_109 (by decide) ?_
            refine lv_istore (lv' := [(4, .int 0), (0, .ref (ad v0)), (1, .int v1), (2, .int v2), (3, .int v3), (5, .int v5)]) hx hb dd_MO_hired_110 hl (by decide) rfl (fun ls hl => ?_)
            refine lv_iinc (v := v5 + 1) (lv' := [(5, .int (v5 + 1)), (4, .int 0), (0, .ref (ad v0)), (1, .int v1), (2, .int v2), (3, .int v3)]) hx hb dd_MO_hired_112 hl (k := 5) rfl rfl (by decide) rfl (fun ls hl => ?_)
            refine lv_goto (tgt := 68) hx hb dd_MO_hired_115 (by decide) ?_
            exact ih x_16 v0 v1 v2 v3 0 (v5 + 1) ho_v0 hf _ _ _ hP hS (lv_sub hl [2, 3, 4, 5, 1, 0] rfl)
          · have hf := (if_neg h_18).symm.trans hf
            refine lv_iconst (v := 1) hx hb dd_MO_hired_105 (by decide) ?_
            refine lv_goto (tgt := 110) hx hb dd_MO_hired_106 (by decide) ?_
            refine lv_istore (lv' := [(4, .int 1), (0, .ref (ad v0)), (1, .int v1), (2, .int v2), (3, .int v3), (5, .int v5)]) hx hb dd_MO_hired_110 hl (by decide) rfl (fun ls hl => ?_)
            refine lv_iinc (v := v5 + 1) (lv' := [(5, .int (v5 + 1)), (4, .int 1), (0, .ref (ad v0)), (1, .int v1), (2, .int v2), (3, .int v3)]) hx hb dd_MO_hired_112 hl (k := 5) rfl rfl (by decide) rfl (fun ls hl => ?_)
            refine lv_goto (tgt := 68) hx hb dd_MO_hired_115 (by decide) ?_
            exact ih x_16 v0 v1 v2 v3 1 (v5 + 1) ho_v0 hf _ _ _ hP hS (lv_sub hl [2, 3, 4, 5, 1, 0] rfl)
set_option maxHeartbeats 4000000 in
set_option maxRecDepth 100000 in
theorem ww_MO_hired_33 {p : Program} {l : Launch} {e : Env} {s : State} {m : MethodId} {args : Array Value} {below : List Frame} {meth : Method} {c : Code} {E : Ev} {A : Nat → Prop} {ad : Nat → Nat} {r : Int32} {x' : St} (C0 : Cx E A RMO bb_MO_hired 6 (some .int) p s m args meth c) (hap : Ap ad ixM A) {k_4 : St → Nat → Int32 → Int32 → Int32 → Option (Int32 × St)} (hk_4 : ∀ (x : St) (v0 : Nat) (v1 : Int32) (v2 : Int32) (v3 : Int32), (isO ixM v0 6) → k_4 x v0 v1 v2 v3 = some (r, x') → ∀ (H : Heap) (locs : List Loc) (ls : Array Slot), Wd E ad ixM x H → va_S A s.heap H locs → lv_has ls 6 [(0, .ref (ad v0)), (1, .int v1), (2, .int v2), (3, .int v3)] → W p l e rm_MO_hired s m args below meth c H locs 0 0 (MQ below (QX E ad ixM A (some (.int r)) x') args s 0 0 A) (F0 m 4 ls [])) {x : St} {v0 : Nat} {v1 : Int32} {v2 : Int32} {v3 : Int32} {w0 : Int32} (ho_v0 : isO ixM v0 6) (hf : ff_MO_hired_33 k_4 x v0 v1 v2 v3 w0 = some (r, x')) {H : Heap} {locs : List Loc} {ls : Array Slot} (hP : Wd E ad ixM x H) (hS : va_S A s.heap H locs) (hl : lv_has ls 6 [(0, .ref (ad v0)), (1, .int v1), (2, .int v2), (3, .int v3)]) : W p l e rm_MO_hired s m args below meth c H locs 0 0 (MQ below (QX E ad ixM A (some (.int r)) x') args s 0 0 A) (F0 m 33 ls [.int w0]) := by
  obtain ⟨hx, hb, hml, hr, hown, hts, hlk, hK⟩ := id C0
  have hf : (if w0 = 0 then ff_MO_hired_68 k_4 FU x v0 v1 v2 v3 0 0 else (if v2 = (-1) then ff_MO_hired_68 k_4 FU x v0 v1 v2 v3 1 0 else bnd (ff_MO_priceOf x v0 v3) (fun r_20 x_21 => bnd (ff_MO_priceOf x_21 v0 v2) (fun r_23 x_24 => (if r_23 ≤ r_20 then ff_MO_hired_68 k_4 FU x_24 v0 v1 v2 v3 0 0 else ff_MO_hired_68 k_4 FU x_24 v0 v1 v2 v3 1 0))))) = some (r, x') := hf
  refine lv_istore (lv' := [(4, .int w0), (0, .ref (ad v0)), (1, .int v1), (2, .int v2), (3, .int v3)]) hx hb dd_MO_hired_33 hl (by decide) rfl (fun ls hl => ?_)
  refine lv_iload hx hb dd_MO_hired_35 (lv_at hl 0 rfl) ?_
  refine lv_if_eq (tgt := 62) hx hb dd_MO_hired_37 (by decide) (fun h_6 => ?_) (fun h_6 => ?_)
  · have hf := (if_pos h_6).symm.trans hf
    refine lv_iconst (v := 0) hx hb dd_MO_hired_62 (by decide) ?_
    refine lv_istore (lv' := [(4, .int 0), (0, .ref (ad v0)), (1, .int v1), (2, .int v2), (3, .int v3)]) hx hb dd_MO_hired_63 hl (by decide) rfl (fun ls hl => ?_)
    refine lv_iconst (v := 0) hx hb dd_MO_hired_65 (by decide) ?_
    refine lv_istore (lv' := [(5, .int 0), (4, .int 0), (0, .ref (ad v0)), (1, .int v1), (2, .int v2), (3, .int v3)]) hx hb dd_MO_hired_66 hl (by decide) rfl (fun ls hl => ?_)
    exact ww_MO_hired_68 C0 hap hk_4 FU x v0 v1 v2 v3 0 0 ho_v0 hf _ _ _ hP hS (lv_sub hl [2, 3, 4, 5, 1, 0] rfl)
  · have hf := (if_neg h_6).symm.trans hf
    refine lv_iload_n hx hb dd_MO_hired_40 rfl (lv_at hl 3 rfl) ?_
    refine lv_iconst (v := -1) hx hb dd_MO_hired_41 (by decide) ?_
    refine lv_icmp_eq (tgt := 58) hx hb dd_MO_hired_42 (by decide) (fun h_19 => ?_) (fun h_19 => ?_)
    · have hf := (if_pos h_19).symm.trans hf
      refine lv_iconst (v := 1) hx hb dd_MO_hired_58 (by decide) ?_
      refine lv_goto (tgt := 63) hx hb dd_MO_hired_59 (by decide) ?_
      refine lv_istore (lv' := [(4, .int 1), (0, .ref (ad v0)), (1, .int v1), (2, .int v2), (3, .int v3)]) hx hb dd_MO_hired_63 hl (by decide) rfl (fun ls hl => ?_)
      refine lv_iconst (v := 0) hx hb dd_MO_hired_65 (by decide) ?_
      refine lv_istore (lv' := [(5, .int 0), (4, .int 1), (0, .ref (ad v0)), (1, .int v1), (2, .int v2), (3, .int v3)]) hx hb dd_MO_hired_66 hl (by decide) rfl (fun ls hl => ?_)
      exact ww_MO_hired_68 C0 hap hk_4 FU x v0 v1 v2 v3 1 0 ho_v0 hf _ _ _ hP hS (lv_sub hl [2, 3, 4, 5, 1, 0] rfl)
    · have hf := (if_neg h_19).symm.trans hf
      refine lv_aload_n hx hb dd_MO_hired_45 rfl (lv_at hl 1 rfl) ?_
      refine lv_iload_n hx hb dd_MO_hired_46 rfl (lv_at hl 4 rfl) ?_
      obtain ⟨r_20, x_21, c_22, hf⟩ := of_bnd hf
      refine cl_MO_207 C0 hap ho_v0 c_22 hP hS ⟨Nat.le_of_ble_eq_true rfl, Nat.le_of_ble_eq_true rfl⟩ hl.1 (Nat.le_of_ble_eq_true rfl) dd_MO_hired_47 ⟨Nat.le_refl _, Nat.le_refl _⟩ (fun H locs hP hS => ?_)
      refine lv_aload_n hx hb dd_MO_hired_50 rfl (lv_at hl 1 rfl) ?_
      refine lv_iload_n hx hb dd_MO_hired_51 rfl (lv_at hl 3 rfl) ?_
      obtain ⟨r_23, x_24, c_25, hf⟩ := of_bnd hf
      refine cl_MO_207 C0 hap ho_v0 c_25 hP hS ⟨Nat.le_of_ble_eq_true rfl, Nat.le_of_ble_eq_true rfl⟩ hl.1 (Nat.le_of_ble_eq_true rfl) dd_MO_hired_52 ⟨Nat.le_refl _, Nat.le_refl _⟩ (fun H locs hP hS => ?_)
      refine lv_icmp_ge (tgt := 62) hx hb dd_MO_hired_55 (by decide) (fun h_26 => ?_) (fun h_26 => ?_)
      · have hf := (if_pos h_26).symm.trans hf
        refine lv_iconst (v := 0) hx hb dd_MO_hired_62 (by decide) ?_
        refine lv_istore (lv' := [(4, .int 0), (0, .ref (ad v0)), (1, .int v1), (2, .int v2), (3, .int v3)]) hx hb dd_MO_hired_63 hl (by decide) rfl (fun ls hl => ?_)
        refine lv_iconst (v := 0) hx hb dd_MO_hired_65 (by decide) ?_
        refine lv_istore (lv' := [(5, .int 0), (4, .int 0), (0, .ref (ad v0)), (1, .int v1), (2, .int v2), (3, .int v3)]) hx hb dd_MO_hired_66 hl (by decide) rfl (fun ls hl => ?_)
        exact ww_MO_hired_68 C0 hap hk_4 FU x_24 v0 v1 v2 v3 0 0 ho_v0 hf _ _ _ hP hS (lv_sub hl [2, 3, 4, 5, 1, 0] rfl)
      · have hf := (if_neg h_26).symm.trans hf
        refine lv_iconst (v := 1) hx hb dd_MO_hired_58 (by decide) ?_
        refine lv_goto (tgt := 63) hx hb dd_MO_hired_59 (by decide) ?_
        refine lv_istore (lv' := [(4, .int 1), (0, .ref (ad v0)), (1, .int v1), (2, .int v2), (3, .int v3)]) hx hb dd_MO_hired_63 hl (by decide) rfl (fun ls hl => ?_)
        refine lv_iconst (v := 0) hx hb dd_MO_hired_65 (by decide) ?_
        refine lv_istore (lv' := [(5, .int 0), (4, .int 1), (0, .ref (ad v0)), (1, .int v1), (2, .int v2), (3, .int v3)]) hx hb dd_MO_hired_66 hl (by decide) rfl (fun ls hl => ?_)
        exact ww_MO_hired_68 C0 hap hk_4 FU x_24 v0 v1 v2 v3 1 0 ho_v0 hf _ _ _ hP hS (lv_sub hl [2, 3, 4, 5, 1, 0] rfl)
set_option maxHeartbeats 4000000 in
set_option maxRecDepth 100000 in
theorem ww_MO_hired_28 {p : Program} {l : Launch} {e : Env} {s : State} {m : MethodId} {args : Array Value} {below : List Frame} {meth : Method} {c : Code} {E : Ev} {A : Nat → Prop} {ad : Nat → Nat} {r : Int32} {x' : St} (C0 : Cx E A RMO bb_MO_hired 6 (some .int) p s m args meth c) (hap : Ap ad ixM A) {k_4 : St → Nat → Int32 → Int32 → Int32 → Option (Int32 × St)} (hk_4 : ∀ (x : St) (v0 : Nat) (v1 : Int32) (v2 : Int32) (v3 : Int32), (isO ixM v0 6) → k_4 x v0 v1 v2 v3 = some (r, x') → ∀ (H : Heap) (locs : List Loc) (ls : Array Slot), Wd E ad ixM x H → va_S A s.heap H locs → lv_has ls 6 [(0, .ref (ad v0)), (1, .int v1), (2, .int v2), (3, .int v3)] → W p l e rm_MO_hired s m args below meth c H locs 0 0 (MQ below (QX E ad ixM A (some (.int r)) x') args s 0 0 A) (F0 m 4 ls [])) {x : St} {v0 : Nat} {v1 : Int32} {v2 : Int32} {v3 : Int32} (ho_v0 : isO ixM v0 6) (hf : ff_MO_hired_28 k_4 x v0 v1 v2 v3 = some (r, x')) {H : Heap} {locs : List Loc} {ls : Array Slot} (hP : Wd E ad ixM x H) (hS : va_S A s.heap H locs) (hl : lv_has ls 6 [(0, .ref (ad v0)), (1, .int v1), (2, .int v2), (3, .int v3)]) : W p l e rm_MO_hired s m args below meth c H locs 0 0 (MQ below (QX E ad ixM A (some (.int r)) x') args s 0 0 A) (F0 m 28 ls []) := by
  obtain ⟨hx, hb, hml, hr, hown, hts, hlk, hK⟩ := id C0
  have hf : ff_MO_hired_33 k_4 x v0 v1 v2 v3 1 = some (r, x') := hf
  refine lv_iconst (v := 1) hx hb dd_MO_hired_28 (by decide) ?_
  refine lv_goto (tgt := 33) hx hb dd_MO_hired_29 (by decide) ?_
  exact ww_MO_hired_33 C0 hap hk_4 ho_v0 hf hP hS (lv_sub hl [0, 1, 2, 3] rfl)
set_option maxHeartbeats 4000000 in
set_option maxRecDepth 100000 in
theorem ww_MO_hired_4 {p : Program} {l : Launch} {e : Env} {s : State} {m : MethodId} {args : Array Value} {below : List Frame} {meth : Method} {c : Code} {E : Ev} {A : Nat → Prop} {ad : Nat → Nat} {r : Int32} {x' : St} (C0 : Cx E A RMO bb_MO_hired 6 (some .int) p s m args meth c) (hap : Ap ad ixM A)  : ∀ (n : Nat), ∀ (x : St) (v0 : Nat) (v1 : Int32) (v2 : Int32) (v3 : Int32), (isO ixM v0 6) → ff_MO_hired_4 n x v0 v1 v2 v3 = some (r, x') → ∀ (H : Heap) (locs : List Loc) (ls : Array Slot), Wd E ad ixM x H → va_S A s.heap H locs → lv_has ls 6 [(0, .ref (ad v0)), (1, .int v1), (2, .int v2), (3, .int v3)] → W p l e rm_MO_hired s m args below meth c H locs 0 0 (MQ below (QX E ad ixM A (some (.int r)) x') args s 0 0 A) (F0 m 4 ls []) := by
  obtain ⟨hx, hb, hml, hr, hown, hts, hlk, hK⟩ := id C0
  intro n
  induction n with
  | zero => intro x v0 v1 v2 v3 ho_v0 hf; exact of_no hf
  | succ n ih =>
    intro x v0 v1 v2 v3 ho_v0 hf H locs ls hP hS hl
    have hf : bnd (ff_MO_get x v0 0) (fun r_1 x_2 => (if (1 <<< (r_1 &&& 31)) ≤ v3 then some (v2, x_2) else (if v1 = (-1) then ff_MO_hired_28 (ff_MO_hired_4 n) x_2 v0 v1 v2 v3 else (if ((v3 >>> (v1 &&& 31)) &&& 1) = 0 then ff_MO_hired_28 (ff_MO_hired_4 n) x_2 v0 v1 v2 v3 else ff_MO_hired_33 (ff_MO_hired_4 n) x_2 v0 v1 v2 v3 0)))) = some (r, x') := hf
    refine lv_iload_n hx hb dd_MO_hired_4 rfl (lv_at hl 3 rfl) ?_
    refine lv_iconst (v := 1) hx hb dd_MO_hired_5 (by decide) ?_
    refine lv_aload_n hx hb dd_MO_hired_6 rfl (lv_at hl 0 rfl) ?_
    refine lv_iconst (v := 0) hx hb dd_MO_hired_7 (by decide) ?_
    obtain ⟨r_1, x_2, c_3, hf⟩ := of_bnd hf
    refine cl_MO_60 C0 hap ho_v0 c_3 hP hS ⟨Nat.le_of_ble_eq_true rfl, Nat.le_of_ble_eq_true rfl⟩ hl.1 (Nat.le_of_ble_eq_true rfl) dd_MO_hired_8 ⟨Nat.le_refl _, Nat.le_refl _⟩ (fun H locs hP hS => ?_)
    refine lv_ishl hx hb dd_MO_hired_11 ?_
    refine lv_icmp_ge (tgt := 135) hx hb dd_MO_hired_12 (by decide) (fun h_4 => ?_) (fun h_4 => ?_)
    · have hf := (if_pos h_4).symm.trans hf
      refine lv_iload_n hx hb dd_MO_hired_135 rfl (lv_at hl 2 rfl) ?_
      exact rrI C0 hP hS dd_MO_hired_136 hf
    · have hf := (if_neg h_4).symm.trans hf
      refine lv_iload_n hx hb dd_MO_hired_15 rfl (lv_at hl 1 rfl) ?_
      refine lv_iconst (v := -1) hx hb dd_MO_hired_16 (by decide) ?_
      refine lv_icmp_eq (tgt := 28) hx hb dd_MO_hired_17 (by decide) (fun h_5 => ?_) (fun h_5 => ?_)
      · have hf := (if_pos h_5).symm.trans hf
        exact ww_MO_hired_28 C0 hap ih ho_v0 hf hP hS (lv_sub hl [0, 1, 2, 3] rfl)
      · have hf := (if_neg h_5).symm.trans hf
        refine lv_iload_n hx hb dd_MO_hired_20 rfl (lv_at hl 3 rfl) ?_
        refine lv_iload_n hx hb dd_MO_hired_21 rfl (lv_at hl 1 rfl) ?_
        refine lv_ishr hx hb dd_MO_hired_22 ?_
        refine lv_iconst (v := 1) hx hb dd_MO_hired_23 (by decide) ?_
        refine lv_iand hx hb dd_MO_hired_24 ?_
        refine lv_if_ne (tgt := 32) hx hb dd_MO_hired_25 (by decide) (fun h_27 => ?_) (fun h_27 => ?_)
        · have hf := (if_neg h_27).symm.trans hf
          refine lv_iconst (v := 0) hx hb dd_MO_hired_32 (by decide) ?_
          exact ww_MO_hired_33 C0 hap ih ho_v0 hf hP hS (lv_sub hl [0, 1, 2, 3] rfl)
        · have hf := (if_pos h_27).symm.trans hf
          exact ww_MO_hired_28 C0 hap ih ho_v0 hf hP hS (lv_sub hl [0, 1, 2, 3] rfl)
set_option maxHeartbeats 4000000 in
set_option maxRecDepth 100000 in
theorem ww_MO_hired {p : Program} {l : Launch} {e : Env} {s : State} {m : MethodId} {args : Array Value} {below : List Frame} {meth : Method} {c : Code} {E : Ev} {A : Nat → Prop} {ad : Nat → Nat} {r : Int32} {x' : St} (C0 : Cx E A RMO bb_MO_hired 6 (some .int) p s m args meth c) (hap : Ap ad ixM A)  {x : St} {v0 : Nat} {v1 : Int32} (ho_v0 : isO ixM v0 6) (hf : ff_MO_hired x v0 v1 = some (r, x')) {H : Heap} {locs : List Loc} {ls : Array Slot} (hP : Wd E ad ixM x H) (hS : va_S A s.heap H locs) (hl : lv_has ls 6 [(0, .ref (ad v0)), (1, .int v1)]) : W p l e rm_MO_hired s m args below meth c H locs 0 0 (MQ below (QX E ad ixM A (some (.int r)) x') args s 0 0 A) (F0 m 0 ls []) := by
  obtain ⟨hx, hb, hml, hr, hown, hts, hlk, hK⟩ := id C0
  have hf : ff_MO_hired_4 FU x v0 v1 (-1) 0 = some (r, x') := hf
  refine lv_iconst (v := -1) hx hb dd_MO_hired_0 (by decide) ?_
  refine lv_istore_n (lv' := [(2, .int (-1)), (0, .ref (ad v0)), (1, .int v1)]) hx hb dd_MO_hired_1 rfl hl (by decide) rfl (fun ls hl => ?_)
  refine lv_iconst (v := 0) hx hb dd_MO_hired_2 (by decide) ?_
  refine lv_istore_n (lv' := [(3, .int 0), (2, .int (-1)), (0, .ref (ad v0)), (1, .int v1)]) hx hb dd_MO_hired_3 rfl hl (by decide) rfl (fun ls hl => ?_)
  exact ww_MO_hired_4 C0 hap  FU x v0 v1 (-1) 0 ho_v0 hf _ _ _ hP hS (lv_sub hl [2, 3, 1, 0] rfl)
theorem cc_MO_hired {l : Launch} {E : Ev} {A : Nat → Prop} {ad : Nat → Nat} (hap : Ap ad ixM A) {x x' : St} {v0 : Nat} {v1 : Int32} {r : Int32} (ho_v0 : isO ixM v0 6) (hf : ff_MO_hired x v0 v1 = some (r, x')) : Met l yy_MO_hired (Cond.code yy_MO_hired bb_MO_hired 6 (some .int) :: gtb) rm_MO_hired (va_Pc [.ref (ad v0), .int v1] (PB E A ad ixM x)) (QX E ad ixM A (some (.int r)) x') 0 0 A := by
  exact enter (by decide) (Nat.le_of_ble_eq_true rfl) (fun p e s m below meth c ls C0 hP hS hl => ww_MO_hired C0 hap ho_v0 hf hP hS hl)
theorem cl_MO_213 {p : Program} {l : Launch} {e : Env} {R : Room} {s : State} {m : MethodId} {args : Array Value} {below : List Frame} {meth : Method} {c : Code} {H : Heap} {locs : List Loc} {cells slots : Nat} {Q : State → Prop} {cc : ByteArray} {pc : Nat} {ls : Array Slot} {rest : List Value} {E : Ev} {A : Nat → Prop} {ad : Nat → Nat} {nL : Nat} {rt : Option FieldType} (C0 : Cx E A RMO cc nL rt p s m args meth c) (hap : Ap ad ixM A) {x x' : St} {v0 : Nat} {r : Unit} (ho_v0 : isO ixM v0 6) (hc : ff_MO_findNeeds x v0 = some (r, x')) (hP : Wd E ad ixM x H) (hS : va_S A s.heap H locs) (hR : rm_MO_findNeeds.frames + 1 ≤ R.frames ∧ 8 + (4 + 11) + rm_MO_findNeeds.locals ≤ R.locals) (hls : ls.size = nL) (hroom : (rest.map fun v => v.category).sum ≤ 8) (hdg : decode cc pc = .ok (.invokevirtual 213, 3)) (hf : cells ≤ R.cells ∧ slots ≤ R.slots) (kk : ∀ H1 locs1, Wd E ad ixM x' H1 → va_S A s.heap H1 locs1 → W p l e R s m args below meth c H1 locs1 cells slots Q (F0 m (pc + 3) ls (rest))) : W p l e R s m args below meth c H locs cells slots Q (F0 m pc ls (.ref (ad v0) :: rest)) :=
  rcV (n := 0) C0 (cc_MO_findNeeds hap ho_v0 hc) hP hS ho_v0 vcl_6 (by decide) gw_code_MO_findNeeds gw_m_MO_213 gw_inst_MO_findNeeds gw_sel_MO_findNeeds gw_ini_MO rfl rfl (by decide +kernel) rfl hR hls rfl hroom hdg hf (fun H1 locs1 a _ _ b => kk H1 locs1 a b)
theorem cl_MO_216 {p : Program} {l : Launch} {e : Env} {R : Room} {s : State} {m : MethodId} {args : Array Value} {below : List Frame} {meth : Method} {c : Code} {H : Heap} {locs : List Loc} {cells slots : Nat} {Q : State → Prop} {cc : ByteArray} {pc : Nat} {ls : Array Slot} {rest : List Value} {E : Ev} {A : Nat → Prop} {ad : Nat → Nat} {nL : Nat} {rt : Option FieldType} (C0 : Cx E A RMO cc nL rt p s m args meth c) (hap : Ap ad ixM A) {x x' : St} {v0 : Nat} {v1 : Int32} {r : Int32} (ho_v0 : isO ixM v0 6) (hc : ff_MO_hired x v0 v1 = some (r, x')) (hP : Wd E ad ixM x H) (hS : va_S A s.heap H locs) (hR : rm_MO_hired.frames + 1 ≤ R.frames ∧ 8 + (6 + 11) + rm_MO_hired.locals ≤ R.locals) (hls : ls.size = nL) (hroom : (rest.map fun v => v.category).sum ≤ 8) (hdg : decode cc pc = .ok (.invokevirtual 216, 3)) (hf : cells ≤ R.cells ∧ slots ≤ R.slots) (kk : ∀ H1 locs1, Wd E ad ixM x' H1 → va_S A s.heap H1 locs1 → W p l e R s m args below meth c H1 locs1 cells slots Q (F0 m (pc + 3) ls (.int r :: rest))) : W p l e R s m args below meth c H locs cells slots Q (F0 m pc ls (.int v1 :: .ref (ad v0) :: rest)) :=
  rcV (n := 1) C0 (cc_MO_hired hap ho_v0 hc) hP hS ho_v0 vcl_6 (by decide) gw_code_MO_hired gw_m_MO_216 gw_inst_MO_hired gw_sel_MO_hired gw_ini_MO rfl rfl (by decide +kernel) rfl hR hls rfl hroom hdg hf (fun H1 locs1 a _ _ b => kk H1 locs1 a b)
abbrev rm_MO_hire : Room := { frames := 6, cells := 0, slots := 0, locals := 136 }
theorem dd_MO_hire_0 : decode bb_MO_hire 0 = .ok (.iload_n 1, 1) := by decide +kernel
theorem dd_MO_hire_1 : decode bb_MO_hire 1 = .ok (.iconst 0, 1) := by decide +kernel
theorem dd_MO_hire_2 : decode bb_MO_hire 2 = .ok (.iconst 1, 1) := by decide +kernel
theorem dd_MO_hire_3 : decode bb_MO_hire 3 = .ok (.invokestatic 64, 3) := by decide +kernel
theorem dd_MO_hire_6 : decode bb_MO_hire 6 = .ok (.ifCond .ne 8, 3) := by decide +kernel
theorem dd_MO_hire_9 : decode bb_MO_hire 9 = .ok (.aload_n 0, 1) := by decide +kernel
theorem dd_MO_hire_10 : decode bb_MO_hire 10 = .ok (.invokevirtual 72, 3) := by decide +kernel
theorem dd_MO_hire_13 : decode bb_MO_hire 13 = .ok (.ireturn, 1) := by decide +kernel
theorem dd_MO_hire_14 : decode bb_MO_hire 14 = .ok (.aload_n 0, 1) := by decide +kernel
theorem dd_MO_hire_15 : decode bb_MO_hire 15 = .ok (.invokevirtual 213, 3) := by decide +kernel
theorem dd_MO_hire_18 : decode bb_MO_hire 18 = .ok (.aload_n 0, 1) := by decide +kernel
theorem dd_MO_hire_19 : decode bb_MO_hire 19 = .ok (.iconst (-1), 1) := by decide +kernel
theorem dd_MO_hire_20 : decode bb_MO_hire 20 = .ok (.invokevirtual 216, 3) := by decide +kernel
theorem dd_MO_hire_23 : decode bb_MO_hire 23 = .ok (.istore_n 2, 1) := by decide +kernel
theorem dd_MO_hire_24 : decode bb_MO_hire 24 = .ok (.iload_n 2, 1) := by decide +kernel
theorem dd_MO_hire_25 : decode bb_MO_hire 25 = .ok (.iconst (-1), 1) := by decide +kernel
theorem dd_MO_hire_26 : decode bb_MO_hire 26 = .ok (.if_icmp .eq 8, 3) := by decide +kernel
theorem dd_MO_hire_29 : decode bb_MO_hire 29 = .ok (.iload_n 1, 1) := by decide +kernel
theorem dd_MO_hire_30 : decode bb_MO_hire 30 = .ok (.iconst 1, 1) := by decide +kernel
theorem dd_MO_hire_31 : decode bb_MO_hire 31 = .ok (.if_icmp .ne 7, 3) := by decide +kernel
theorem dd_MO_hire_34 : decode bb_MO_hire 34 = .ok (.iload_n 2, 1) := by decide +kernel
theorem dd_MO_hire_35 : decode bb_MO_hire 35 = .ok (.goto 8, 3) := by decide +kernel
theorem dd_MO_hire_38 : decode bb_MO_hire 38 = .ok (.aload_n 0, 1) := by decide +kernel
theorem dd_MO_hire_39 : decode bb_MO_hire 39 = .ok (.iload_n 2, 1) := by decide +kernel
theorem dd_MO_hire_40 : decode bb_MO_hire 40 = .ok (.invokevirtual 207, 3) := by decide +kernel
theorem dd_MO_hire_43 : decode bb_MO_hire 43 = .ok (.ireturn, 1) := by decide +kernel
def ff_MO_hire  (x : St) (v0 : Nat) (v1 : Int32) : Option (Int32 × St) := bnd (ff_MO_in x v1 0 1) (fun r_1 x_2 => (if r_1 = 0 then bnd (ff_MO_bad x_2 v0) (fun r_16 x_17 => some (r_16, x_17)) else bnd (ff_MO_findNeeds x_2 v0) (fun _ x_6 => bnd (ff_MO_hired x_6 v0 (-1)) (fun r_8 x_9 => (if r_8 = (-1) then some (r_8, x_9) else (if v1 = 1 then some (r_8, x_9) else bnd (ff_MO_priceOf x_9 v0 r_8) (fun r_13 x_14 => some (r_13, x_14))))))))
set_option maxHeartbeats 4000000 in
set_option maxRecDepth 100000 in
theorem ww_MO_hire {p : Program} {l : Launch} {e : Env} {s : State} {m : MethodId} {args : Array Value} {below : List Frame} {meth : Method} {c : Code} {E : Ev} {A : Nat → Prop} {ad : Nat → Nat} {r : Int32} {x' : St} (C0 : Cx E A RMO bb_MO_hire 3 (some .int) p s m args meth c) (hap : Ap ad ixM A)  {x : St} {v0 : Nat} {v1 : Int32} (ho_v0 : isO ixM v0 6) (hf : ff_MO_hire x v0 v1 = some (r, x')) {H : Heap} {locs : List Loc} {ls : Array Slot} (hP : Wd E ad ixM x H) (hS : va_S A s.heap H locs) (hl : lv_has ls 3 [(0, .ref (ad v0)), (1, .int v1)]) : W p l e rm_MO_hire s m args below meth c H locs 0 0 (MQ below (QX E ad ixM A (some (.int r)) x') args s 0 0 A) (F0 m 0 ls []) := by
  obtain ⟨hx, hb, hml, hr, hown, hts, hlk, hK⟩ := id C0
  have hf : bnd (ff_MO_in x v1 0 1) (fun r_1 x_2 => (if r_1 = 0 then bnd (ff_MO_bad x_2 v0) (fun r_16 x_17 => some (r_16, x_17)) else bnd (ff_MO_findNeeds x_2 v0) (fun _ x_6 => bnd (ff_MO_hired x_6 v0 (-1)) (fun r_8 x_9 => (if r_8 = (-1) then some (r_8, x_9) else (if v1 = 1 then some (r_8, x_9) else bnd (ff_MO_priceOf x_9 v0 r_8) (fun r_13 x_14 => some (r_13, x_14)))))))) = some (r, x') := hf
  refine lv_iload_n hx hb dd_MO_hire_0 rfl (lv_at hl 1 rfl) ?_
  refine lv_iconst (v := 0) hx hb dd_MO_hire_1 (by decide) ?_
  refine lv_iconst (v := 1) hx hb dd_MO_hire_2 (by decide) ?_
  obtain ⟨r_1, x_2, c_3, hf⟩ := of_bnd hf
  refine cl_MO_64 C0 hap  c_3 hP hS ⟨Nat.le_of_ble_eq_true rfl, Nat.le_of_ble_eq_true rfl⟩ hl.1 (Nat.le_of_ble_eq_true rfl) dd_MO_hire_3 ⟨Nat.le_refl _, Nat.le_refl _⟩ (fun H locs hP hS => ?_)
  refine lv_if_ne (tgt := 14) hx hb dd_MO_hire_6 (by decide) (fun h_4 => ?_) (fun h_4 => ?_)
  · have hf := (if_neg h_4).symm.trans hf
    refine lv_aload_n hx hb dd_MO_hire_14 rfl (lv_at hl 0 rfl) ?_
    obtain ⟨_, x_6, c_7, hf⟩ := of_bnd hf
    refine cl_MO_213 C0 hap ho_v0 c_7 hP hS ⟨Nat.le_of_ble_eq_true rfl, Nat.le_of_ble_eq_true rfl⟩ hl.1 (Nat.le_of_ble_eq_true rfl) dd_MO_hire_15 ⟨Nat.le_refl _, Nat.le_refl _⟩ (fun H locs hP hS => ?_)
    refine lv_aload_n hx hb dd_MO_hire_18 rfl (lv_at hl 0 rfl) ?_
    refine lv_iconst (v := -1) hx hb dd_MO_hire_19 (by decide) ?_
    obtain ⟨r_8, x_9, c_10, hf⟩ := of_bnd hf
    refine cl_MO_216 C0 hap ho_v0 c_10 hP hS ⟨Nat.le_of_ble_eq_true rfl, Nat.le_of_ble_eq_true rfl⟩ hl.1 (Nat.le_of_ble_eq_true rfl) dd_MO_hire_20 ⟨Nat.le_refl _, Nat.le_refl _⟩ (fun H locs hP hS => ?_)
    refine lv_istore_n (lv' := [(2, .int r_8), (0, .ref (ad v0)), (1, .int v1)]) hx hb dd_MO_hire_23 rfl hl (by decide) rfl (fun ls hl => ?_)
    refine lv_iload_n hx hb dd_MO_hire_24 rfl (lv_at hl 0 rfl) ?_
    refine lv_iconst (v := -1) hx hb dd_MO_hire_25 (by decide) ?_
    refine lv_icmp_eq (tgt := 34) hx hb dd_MO_hire_26 (by decide) (fun h_11 => ?_) (fun h_11 => ?_)
    · have hf := (if_pos h_11).symm.trans hf
      refine lv_iload_n hx hb dd_MO_hire_34 rfl (lv_at hl 0 rfl) ?_
      refine lv_goto (tgt := 43) hx hb dd_MO_hire_35 (by decide) ?_
      exact rrI C0 hP hS dd_MO_hire_43 hf
    · have hf := (if_neg h_11).symm.trans hf
      refine lv_iload_n hx hb dd_MO_hire_29 rfl (lv_at hl 2 rfl) ?_
      refine lv_iconst (v := 1) hx hb dd_MO_hire_30 (by decide) ?_
      refine lv_icmp_ne (tgt := 38) hx hb dd_MO_hire_31 (by decide) (fun h_12 => ?_) (fun h_12 => ?_)
      · have hf := (if_neg h_12).symm.trans hf
        refine lv_aload_n hx hb dd_MO_hire_38 rfl (lv_at hl 1 rfl) ?_
        refine lv_iload_n hx hb dd_MO_hire_39 rfl (lv_at hl 0 rfl) ?_
        obtain ⟨r_13, x_14, c_15, hf⟩ := of_bnd hf
        refine cl_MO_207 C0 hap ho_v0 c_15 hP hS ⟨Nat.le_of_ble_eq_true rfl, Nat.le_of_ble_eq_true rfl⟩ hl.1 (Nat.le_of_ble_eq_true rfl) dd_MO_hire_40 ⟨Nat.le_refl _, Nat.le_refl _⟩ (fun H locs hP hS => ?_)
        exact rrI C0 hP hS dd_MO_hire_43 hf
      · have hf := (if_pos h_12).symm.trans hf
        refine lv_iload_n hx hb dd_MO_hire_34 rfl (lv_at hl 0 rfl) ?_
        refine lv_goto (tgt := 43) hx hb dd_MO_hire_35 (by decide) ?_
        exact rrI C0 hP hS dd_MO_hire_43 hf
  · have hf := (if_pos h_4).symm.trans hf
    refine lv_aload_n hx hb dd_MO_hire_9 rfl (lv_at hl 0 rfl) ?_
    obtain ⟨r_16, x_17, c_18, hf⟩ := of_bnd hf
    refine cl_MO_72 C0 hap ho_v0 c_18 hP hS ⟨Nat.le_of_ble_eq_true rfl, Nat.le_of_ble_eq_true rfl⟩ hl.1 (Nat.le_of_ble_eq_true rfl) dd_MO_hire_10 ⟨Nat.le_refl _, Nat.le_refl _⟩ (fun H locs hP hS => ?_)
    exact rrI C0 hP hS dd_MO_hire_13 hf
theorem cc_MO_hire {l : Launch} {E : Ev} {A : Nat → Prop} {ad : Nat → Nat} (hap : Ap ad ixM A) {x x' : St} {v0 : Nat} {v1 : Int32} {r : Int32} (ho_v0 : isO ixM v0 6) (hf : ff_MO_hire x v0 v1 = some (r, x')) : Met l yy_MO_hire (Cond.code yy_MO_hire bb_MO_hire 3 (some .int) :: gtb) rm_MO_hire (va_Pc [.ref (ad v0), .int v1] (PB E A ad ixM x)) (QX E ad ixM A (some (.int r)) x') 0 0 A := by
  exact enter (by decide) (Nat.le_of_ble_eq_true rfl) (fun p e s m below meth c ls C0 hP hS hl => ww_MO_hire C0 hap ho_v0 hf hP hS hl)
abbrev rm_MO_who : Room := { frames := 6, cells := 0, slots := 0, locals := 136 }
theorem dd_MO_who_0 : decode bb_MO_who 0 = .ok (.aload_n 0, 1) := by decide +kernel
theorem dd_MO_who_1 : decode bb_MO_who 1 = .ok (.iload_n 1, 1) := by decide +kernel
theorem dd_MO_who_2 : decode bb_MO_who 2 = .ok (.invokevirtual 103, 3) := by decide +kernel
theorem dd_MO_who_5 : decode bb_MO_who 5 = .ok (.ifCond .ne 8, 3) := by decide +kernel
theorem dd_MO_who_8 : decode bb_MO_who 8 = .ok (.aload_n 0, 1) := by decide +kernel
theorem dd_MO_who_9 : decode bb_MO_who 9 = .ok (.invokevirtual 72, 3) := by decide +kernel
theorem dd_MO_who_12 : decode bb_MO_who 12 = .ok (.ireturn, 1) := by decide +kernel
theorem dd_MO_who_13 : decode bb_MO_who 13 = .ok (.aload_n 0, 1) := by decide +kernel
theorem dd_MO_who_14 : decode bb_MO_who 14 = .ok (.invokevirtual 213, 3) := by decide +kernel
theorem dd_MO_who_17 : decode bb_MO_who 17 = .ok (.aload_n 0, 1) := by decide +kernel
theorem dd_MO_who_18 : decode bb_MO_who 18 = .ok (.iconst (-1), 1) := by decide +kernel
theorem dd_MO_who_19 : decode bb_MO_who 19 = .ok (.invokevirtual 216, 3) := by decide +kernel
theorem dd_MO_who_22 : decode bb_MO_who 22 = .ok (.istore_n 2, 1) := by decide +kernel
theorem dd_MO_who_23 : decode bb_MO_who 23 = .ok (.iload_n 2, 1) := by decide +kernel
theorem dd_MO_who_24 : decode bb_MO_who 24 = .ok (.iconst (-1), 1) := by decide +kernel
theorem dd_MO_who_25 : decode bb_MO_who 25 = .ok (.if_icmp .eq 13, 3) := by decide +kernel
theorem dd_MO_who_28 : decode bb_MO_who 28 = .ok (.aload_n 0, 1) := by decide +kernel
theorem dd_MO_who_29 : decode bb_MO_who 29 = .ok (.getfield 31, 3) := by decide +kernel
theorem dd_MO_who_32 : decode bb_MO_who 32 = .ok (.iload_n 1, 1) := by decide +kernel
theorem dd_MO_who_33 : decode bb_MO_who 33 = .ok (.iaload, 1) := by decide +kernel
theorem dd_MO_who_34 : decode bb_MO_who 34 = .ok (.iconst (-1), 1) := by decide +kernel
theorem dd_MO_who_35 : decode bb_MO_who 35 = .ok (.if_icmp .ne 7, 3) := by decide +kernel
theorem dd_MO_who_38 : decode bb_MO_who 38 = .ok (.iconst (-1), 1) := by decide +kernel
theorem dd_MO_who_39 : decode bb_MO_who 39 = .ok (.goto 9, 3) := by decide +kernel
theorem dd_MO_who_42 : decode bb_MO_who 42 = .ok (.aload_n 0, 1) := by decide +kernel
theorem dd_MO_who_43 : decode bb_MO_who 43 = .ok (.iload_n 1, 1) := by decide +kernel
theorem dd_MO_who_44 : decode bb_MO_who 44 = .ok (.iload_n 2, 1) := by decide +kernel
theorem dd_MO_who_45 : decode bb_MO_who 45 = .ok (.invokevirtual 210, 3) := by decide +kernel
theorem dd_MO_who_48 : decode bb_MO_who 48 = .ok (.ireturn, 1) := by decide +kernel
def ff_MO_who  (x : St) (v0 : Nat) (v1 : Int32) : Option (Int32 × St) := bnd (ff_MO_isJoint x v0 v1) (fun r_1 x_2 => (if r_1 = 0 then bnd (ff_MO_bad x_2 v0) (fun r_17 x_18 => some (r_17, x_18)) else bnd (ff_MO_findNeeds x_2 v0) (fun _ x_6 => bnd (ff_MO_hired x_6 v0 (-1)) (fun r_8 x_9 => (if r_8 = (-1) then some ((-1), x_9) else (if ixb v1 (ln (rf v0 15)) = true then (if (gi x_9 (rf v0 15) (ix v1)) = (-1) then some ((-1), x_9) else bnd (ff_MO_whoOf x_9 v0 v1 r_8) (fun r_14 x_15 => some (r_14, x_15))) else none))))))
set_option maxHeartbeats 4000000 in
set_option maxRecDepth 100000 in
theorem ww_MO_who {p : Program} {l : Launch} {e : Env} {s : State} {m : MethodId} {args : Array Value} {below : List Frame} {meth : Method} {c : Code} {E : Ev} {A : Nat → Prop} {ad : Nat → Nat} {r : Int32} {x' : St} (C0 : Cx E A RMO bb_MO_who 3 (some .int) p s m args meth c) (hap : Ap ad ixM A)  {x : St} {v0 : Nat} {v1 : Int32} (ho_v0 : isO ixM v0 6) (hf : ff_MO_who x v0 v1 = some (r, x')) {H : Heap} {locs : List Loc} {ls : Array Slot} (hP : Wd E ad ixM x H) (hS : va_S A s.heap H locs) (hl : lv_has ls 3 [(0, .ref (ad v0)), (1, .int v1)]) : W p l e rm_MO_who s m args below meth c H locs 0 0 (MQ below (QX E ad ixM A (some (.int r)) x') args s 0 0 A) (F0 m 0 ls []) := by
  obtain ⟨hx, hb, hml, hr, hown, hts, hlk, hK⟩ := id C0
  have hf : bnd (ff_MO_isJoint x v0 v1) (fun r_1 x_2 => (if r_1 = 0 then bnd (ff_MO_bad x_2 v0) (fun r_17 x_18 => some (r_17, x_18)) else bnd (ff_MO_findNeeds x_2 v0) (fun _ x_6 => bnd (ff_MO_hired x_6 v0 (-1)) (fun r_8 x_9 => (if r_8 = (-1) then some ((-1), x_9) else (if ixb v1 (ln (rf v0 15)) = true then (if (gi x_9 (rf v0 15) (ix v1)) = (-1) then some ((-1), x_9) else bnd (ff_MO_whoOf x_9 v0 v1 r_8) (fun r_14 x_15 => some (r_14, x_15))) else none)))))) = some (r, x') := hf
  refine lv_aload_n hx hb dd_MO_who_0 rfl (lv_at hl 0 rfl) ?_
  refine lv_iload_n hx hb dd_MO_who_1 rfl (lv_at hl 1 rfl) ?_
  obtain ⟨r_1, x_2, c_3, hf⟩ := of_bnd hf
  refine cl_MO_103 C0 hap ho_v0 c_3 hP hS ⟨Nat.le_of_ble_eq_true rfl, Nat.le_of_ble_eq_true rfl⟩ hl.1 (Nat.le_of_ble_eq_true rfl) dd_MO_who_2 ⟨Nat.le_refl _, Nat.le_refl _⟩ (fun H locs hP hS => ?_)
  refine lv_if_ne (tgt := 13) hx hb dd_MO_who_5 (by decide) (fun h_4 => ?_) (fun h_4 => ?_)
  · have hf := (if_neg h_4).symm.trans hf
    refine lv_aload_n hx hb dd_MO_who_13 rfl (lv_at hl 0 rfl) ?_
    obtain ⟨_, x_6, c_7, hf⟩ := of_bnd hf
    refine cl_MO_213 C0 hap ho_v0 c_7 hP hS ⟨Nat.le_of_ble_eq_true rfl, Nat.le_of_ble_eq_true rfl⟩ hl.1 (Nat.le_of_ble_eq_true rfl) dd_MO_who_14 ⟨Nat.le_refl _, Nat.le_refl _⟩ (fun H locs hP hS => ?_)
    refine lv_aload_n hx hb dd_MO_who_17 rfl (lv_at hl 0 rfl) ?_
    refine lv_iconst (v := -1) hx hb dd_MO_who_18 (by decide) ?_
    obtain ⟨r_8, x_9, c_10, hf⟩ := of_bnd hf
    refine cl_MO_216 C0 hap ho_v0 c_10 hP hS ⟨Nat.le_of_ble_eq_true rfl, Nat.le_of_ble_eq_true rfl⟩ hl.1 (Nat.le_of_ble_eq_true rfl) dd_MO_who_19 ⟨Nat.le_refl _, Nat.le_refl _⟩ (fun H locs hP hS => ?_)
    refine lv_istore_n (lv' := [(2, .int r_8), (0, .ref (ad v0)), (1, .int v1)]) hx hb dd_MO_who_22 rfl hl (by decide) rfl (fun ls hl => ?_)
    refine lv_iload_n hx hb dd_MO_who_23 rfl (lv_at hl 0 rfl) ?_
    refine lv_iconst (v := -1) hx hb dd_MO_who_24 (by decide) ?_
    refine lv_icmp_eq (tgt := 38) hx hb dd_MO_who_25 (by decide) (fun h_11 => ?_) (fun h_11 => ?_)
    · have hf := (if_pos h_11).symm.trans hf
      refine lv_iconst (v := -1) hx hb dd_MO_who_38 (by decide) ?_
      refine lv_goto (tgt := 48) hx hb dd_MO_who_39 (by decide) ?_
      exact rrI C0 hP hS dd_MO_who_48 hf
    · have hf := (if_neg h_11).symm.trans hf
      refine lv_aload_n hx hb dd_MO_who_28 rfl (lv_at hl 1 rfl) ?_
      refine gf_MO_31 C0 hP ho_v0 dd_MO_who_29 ?_
      refine lv_iload_n hx hb dd_MO_who_32 rfl (lv_at hl 2 rfl) ?_
      obtain ⟨h_12, hf⟩ := of_ifb hf
      refine raI C0 hP (tp_6_15 ho_v0) h_12 dd_MO_who_33 ?_
      refine lv_iconst (v := -1) hx hb dd_MO_who_34 (by decide) ?_
      refine lv_icmp_ne (tgt := 42) hx hb dd_MO_who_35 (by decide) (fun h_13 => ?_) (fun h_13 => ?_)
      · have hf := (if_neg h_13).symm.trans hf
        refine lv_aload_n hx hb dd_MO_who_42 rfl (lv_at hl 1 rfl) ?_
        refine lv_iload_n hx hb dd_MO_who_43 rfl (lv_at hl 2 rfl) ?_
        refine lv_iload_n hx hb dd_MO_who_44 rfl (lv_at hl 0 rfl) ?_
        obtain ⟨r_14, x_15, c_16, hf⟩ := of_bnd hf
        refine cl_MO_210 C0 hap ho_v0 c_16 hP hS ⟨Nat.le_of_ble_eq_true rfl, Nat.le_of_ble_eq_true rfl⟩ hl.1 (Nat.le_of_ble_eq_true rfl) dd_MO_who_45 ⟨Nat.le_refl _, Nat.le_refl _⟩ (fun H locs hP hS => ?_)
        exact rrI C0 hP hS dd_MO_who_48 hf
      · have hf := (if_pos h_13).symm.trans hf
        refine lv_iconst (v := -1) hx hb dd_MO_who_38 (by decide) ?_
        refine lv_goto (tgt := 48) hx hb dd_MO_who_39 (by decide) ?_
        exact rrI C0 hP hS dd_MO_who_48 hf
  · have hf := (if_pos h_4).symm.trans hf
    refine lv_aload_n hx hb dd_MO_who_8 rfl (lv_at hl 0 rfl) ?_
    obtain ⟨r_17, x_18, c_19, hf⟩ := of_bnd hf
    refine cl_MO_72 C0 hap ho_v0 c_19 hP hS ⟨Nat.le_of_ble_eq_true rfl, Nat.le_of_ble_eq_true rfl⟩ hl.1 (Nat.le_of_ble_eq_true rfl) dd_MO_who_9 ⟨Nat.le_refl _, Nat.le_refl _⟩ (fun H locs hP hS => ?_)
    exact rrI C0 hP hS dd_MO_who_12 hf
theorem cc_MO_who {l : Launch} {E : Ev} {A : Nat → Prop} {ad : Nat → Nat} (hap : Ap ad ixM A) {x x' : St} {v0 : Nat} {v1 : Int32} {r : Int32} (ho_v0 : isO ixM v0 6) (hf : ff_MO_who x v0 v1 = some (r, x')) : Met l yy_MO_who (Cond.code yy_MO_who bb_MO_who 3 (some .int) :: gtb) rm_MO_who (va_Pc [.ref (ad v0), .int v1] (PB E A ad ixM x)) (QX E ad ixM A (some (.int r)) x') 0 0 A := by
  exact enter (by decide) (Nat.le_of_ble_eq_true rfl) (fun p e s m below meth c ls C0 hP hS hl => ww_MO_who C0 hap ho_v0 hf hP hS hl)
abbrev rm_MO_saves : Room := { frames := 6, cells := 0, slots := 0, locals := 136 }
theorem dd_MO_saves_0 : decode bb_MO_saves 0 = .ok (.aload_n 0, 1) := by decide +kernel
theorem dd_MO_saves_1 : decode bb_MO_saves 1 = .ok (.iload_n 1, 1) := by decide +kernel
theorem dd_MO_saves_2 : decode bb_MO_saves 2 = .ok (.invokevirtual 94, 3) := by decide +kernel
theorem dd_MO_saves_5 : decode bb_MO_saves 5 = .ok (.ifCond .ne 8, 3) := by decide +kernel
theorem dd_MO_saves_8 : decode bb_MO_saves 8 = .ok (.aload_n 0, 1) := by decide +kernel
theorem dd_MO_saves_9 : decode bb_MO_saves 9 = .ok (.invokevirtual 72, 3) := by decide +kernel
theorem dd_MO_saves_12 : decode bb_MO_saves 12 = .ok (.ireturn, 1) := by decide +kernel
theorem dd_MO_saves_13 : decode bb_MO_saves 13 = .ok (.aload_n 0, 1) := by decide +kernel
theorem dd_MO_saves_14 : decode bb_MO_saves 14 = .ok (.invokevirtual 213, 3) := by decide +kernel
theorem dd_MO_saves_17 : decode bb_MO_saves 17 = .ok (.aload_n 0, 1) := by decide +kernel
theorem dd_MO_saves_18 : decode bb_MO_saves 18 = .ok (.iconst (-1), 1) := by decide +kernel
theorem dd_MO_saves_19 : decode bb_MO_saves 19 = .ok (.invokevirtual 216, 3) := by decide +kernel
theorem dd_MO_saves_22 : decode bb_MO_saves 22 = .ok (.istore_n 2, 1) := by decide +kernel
theorem dd_MO_saves_23 : decode bb_MO_saves 23 = .ok (.aload_n 0, 1) := by decide +kernel
theorem dd_MO_saves_24 : decode bb_MO_saves 24 = .ok (.iload_n 1, 1) := by decide +kernel
theorem dd_MO_saves_25 : decode bb_MO_saves 25 = .ok (.invokevirtual 216, 3) := by decide +kernel
theorem dd_MO_saves_28 : decode bb_MO_saves 28 = .ok (.istore_n 3, 1) := by decide +kernel
theorem dd_MO_saves_29 : decode bb_MO_saves 29 = .ok (.iload_n 2, 1) := by decide +kernel
theorem dd_MO_saves_30 : decode bb_MO_saves 30 = .ok (.iconst (-1), 1) := by decide +kernel
theorem dd_MO_saves_31 : decode bb_MO_saves 31 = .ok (.if_icmp .eq 8, 3) := by decide +kernel
theorem dd_MO_saves_34 : decode bb_MO_saves 34 = .ok (.iload_n 3, 1) := by decide +kernel
theorem dd_MO_saves_35 : decode bb_MO_saves 35 = .ok (.iconst (-1), 1) := by decide +kernel
theorem dd_MO_saves_36 : decode bb_MO_saves 36 = .ok (.if_icmp .ne 7, 3) := by decide +kernel
theorem dd_MO_saves_39 : decode bb_MO_saves 39 = .ok (.iconst (-1), 1) := by decide +kernel
theorem dd_MO_saves_40 : decode bb_MO_saves 40 = .ok (.goto 14, 3) := by decide +kernel
theorem dd_MO_saves_43 : decode bb_MO_saves 43 = .ok (.aload_n 0, 1) := by decide +kernel
theorem dd_MO_saves_44 : decode bb_MO_saves 44 = .ok (.iload_n 3, 1) := by decide +kernel
theorem dd_MO_saves_45 : decode bb_MO_saves 45 = .ok (.invokevirtual 207, 3) := by decide +kernel
theorem dd_MO_saves_48 : decode bb_MO_saves 48 = .ok (.aload_n 0, 1) := by decide +kernel
theorem dd_MO_saves_49 : decode bb_MO_saves 49 = .ok (.iload_n 2, 1) := by decide +kernel
theorem dd_MO_saves_50 : decode bb_MO_saves 50 = .ok (.invokevirtual 207, 3) := by decide +kernel
theorem dd_MO_saves_53 : decode bb_MO_saves 53 = .ok (.isub, 1) := by decide +kernel
theorem dd_MO_saves_54 : decode bb_MO_saves 54 = .ok (.ireturn, 1) := by decide +kernel
def ff_MO_saves  (x : St) (v0 : Nat) (v1 : Int32) : Option (Int32 × St) := bnd (ff_MO_isMourner x v0 v1) (fun r_1 x_2 => (if r_1 = 0 then bnd (ff_MO_bad x_2 v0) (fun r_22 x_23 => some (r_22, x_23)) else bnd (ff_MO_findNeeds x_2 v0) (fun _ x_6 => bnd (ff_MO_hired x_6 v0 (-1)) (fun r_8 x_9 => bnd (ff_MO_hired x_9 v0 v1) (fun r_11 x_12 => (if r_8 = (-1) then some ((-1), x_12) else (if r_11 = (-1) then some ((-1), x_12) else bnd (ff_MO_priceOf x_12 v0 r_11) (fun r_16 x_17 => bnd (ff_MO_priceOf x_17 v0 r_8) (fun r_19 x_20 => some (r_16 - r_19, x_20))))))))))
set_option maxHeartbeats 4000000 in
set_option maxRecDepth 100000 in
theorem ww_MO_saves {p : Program} {l : Launch} {e : Env} {s : State} {m : MethodId} {args : Array Value} {below : List Frame} {meth : Method} {c : Code} {E : Ev} {A : Nat → Prop} {ad : Nat → Nat} {r : Int32} {x' : St} (C0 : Cx E A RMO bb_MO_saves 4 (some .int) p s m args meth c) (hap : Ap ad ixM A)  {x : St} {v0 : Nat} {v1 : Int32} (ho_v0 : isO ixM v0 6) (hf : ff_MO_saves x v0 v1 = some (r, x')) {H : Heap} {locs : List Loc} {ls : Array Slot} (hP : Wd E ad ixM x H) (hS : va_S A s.heap H locs) (hl : lv_has ls 4 [(0, .ref (ad v0)), (1, .int v1)]) : W p l e rm_MO_saves s m args below meth c H locs 0 0 (MQ below (QX E ad ixM A (some (.int r)) x') args s 0 0 A) (F0 m 0 ls []) := by
  obtain ⟨hx, hb, hml, hr, hown, hts, hlk, hK⟩ := id C0
  have hf : bnd (ff_MO_isMourner x v0 v1) (fun r_1 x_2 => (if r_1 = 0 then bnd (ff_MO_bad x_2 v0) (fun r_22 x_23 => some (r_22, x_23)) else bnd (ff_MO_findNeeds x_2 v0) (fun _ x_6 => bnd (ff_MO_hired x_6 v0 (-1)) (fun r_8 x_9 => bnd (ff_MO_hired x_9 v0 v1) (fun r_11 x_12 => (if r_8 = (-1) then some ((-1), x_12) else (if r_11 = (-1) then some ((-1), x_12) else bnd (ff_MO_priceOf x_12 v0 r_11) (fun r_16 x_17 => bnd (ff_MO_priceOf x_17 v0 r_8) (fun r_19 x_20 => some (r_16 - r_19, x_20)))))))))) = some (r, x') := hf
  refine lv_aload_n hx hb dd_MO_saves_0 rfl (lv_at hl 0 rfl) ?_
  refine lv_iload_n hx hb dd_MO_saves_1 rfl (lv_at hl 1 rfl) ?_
  obtain ⟨r_1, x_2, c_3, hf⟩ := of_bnd hf
  refine cl_MO_94 C0 hap ho_v0 c_3 hP hS ⟨Nat.le_of_ble_eq_true rfl, Nat.le_of_ble_eq_true rfl⟩ hl.1 (Nat.le_of_ble_eq_true rfl) dd_MO_saves_2 ⟨Nat.le_refl _, Nat.le_refl _⟩ (fun H locs hP hS => ?_)
  refine lv_if_ne (tgt := 13) hx hb dd_MO_saves_5 (by decide) (fun h_4 => ?_) (fun h_4 => ?_)
  · have hf := (if_neg h_4).symm.trans hf
    refine lv_aload_n hx hb dd_MO_saves_13 rfl (lv_at hl 0 rfl) ?_
    obtain ⟨_, x_6, c_7, hf⟩ := of_bnd hf
    refine cl_MO_213 C0 hap ho_v0 c_7 hP hS ⟨Nat.le_of_ble_eq_true rfl, Nat.le_of_ble_eq_true rfl⟩ hl.1 (Nat.le_of_ble_eq_true rfl) dd_MO_saves_14 ⟨Nat.le_refl _, Nat.le_refl _⟩ (fun H locs hP hS => ?_)
    refine lv_aload_n hx hb dd_MO_saves_17 rfl (lv_at hl 0 rfl) ?_
    refine lv_iconst (v := -1) hx hb dd_MO_saves_18 (by decide) ?_
    obtain ⟨r_8, x_9, c_10, hf⟩ := of_bnd hf
    refine cl_MO_216 C0 hap ho_v0 c_10 hP hS ⟨Nat.le_of_ble_eq_true rfl, Nat.le_of_ble_eq_true rfl⟩ hl.1 (Nat.le_of_ble_eq_true rfl) dd_MO_saves_19 ⟨Nat.le_refl _, Nat.le_refl _⟩ (fun H locs hP hS => ?_)
    refine lv_istore_n (lv' := [(2, .int r_8), (0, .ref (ad v0)), (1, .int v1)]) hx hb dd_MO_saves_22 rfl hl (by decide) rfl (fun ls hl => ?_)
    refine lv_aload_n hx hb dd_MO_saves_23 rfl (lv_at hl 1 rfl) ?_
    refine lv_iload_n hx hb dd_MO_saves_24 rfl (lv_at hl 2 rfl) ?_
    obtain ⟨r_11, x_12, c_13, hf⟩ := of_bnd hf
    refine cl_MO_216 C0 hap ho_v0 c_13 hP hS ⟨Nat.le_of_ble_eq_true rfl, Nat.le_of_ble_eq_true rfl⟩ hl.1 (Nat.le_of_ble_eq_true rfl) dd_MO_saves_25 ⟨Nat.le_refl _, Nat.le_refl _⟩ (fun H locs hP hS => ?_)
    refine lv_istore_n (lv' := [(3, .int r_11), (2, .int r_8), (0, .ref (ad v0)), (1, .int v1)]) hx hb dd_MO_saves_28 rfl hl (by decide) rfl (fun ls hl => ?_)
    refine lv_iload_n hx hb dd_MO_saves_29 rfl (lv_at hl 1 rfl) ?_
    refine lv_iconst (v := -1) hx hb dd_MO_saves_30 (by decide) ?_
    refine lv_icmp_eq (tgt := 39) hx hb dd_MO_saves_31 (by decide) (fun h_14 => ?_) (fun h_14 => ?_)
    · have hf := (if_pos h_14).symm.trans hf
      refine lv_iconst (v := -1) hx hb dd_MO_saves_39 (by decide) ?_
      refine lv_goto (tgt := 54) hx hb dd_MO_saves_40 (by decide) ?_
      exact rrI C0 hP hS dd_MO_saves_54 hf
    · have hf := (if_neg h_14).symm.trans hf
      refine lv_iload_n hx hb dd_MO_saves_34 rfl (lv_at hl 0 rfl) ?_
      refine lv_iconst (v := -1) hx hb dd_MO_saves_35 (by decide) ?_
      refine lv_icmp_ne (tgt := 43) hx hb dd_MO_saves_36 (by decide) (fun h_15 => ?_) (fun h_15 => ?_)
      · have hf := (if_neg h_15).symm.trans hf
        refine lv_aload_n hx hb dd_MO_saves_43 rfl (lv_at hl 2 rfl) ?_
        refine lv_iload_n hx hb dd_MO_saves_44 rfl (lv_at hl 0 rfl) ?_
        obtain ⟨r_16, x_17, c_18, hf⟩ := of_bnd hf
        refine cl_MO_207 C0 hap ho_v0 c_18 hP hS ⟨Nat.le_of_ble_eq_true rfl, Nat.le_of_ble_eq_true rfl⟩ hl.1 (Nat.le_of_ble_eq_true rfl) dd_MO_saves_45 ⟨Nat.le_refl _, Nat.le_refl _⟩ (fun H locs hP hS => ?_)
        refine lv_aload_n hx hb dd_MO_saves_48 rfl (lv_at hl 2 rfl) ?_
        refine lv_iload_n hx hb dd_MO_saves_49 rfl (lv_at hl 1 rfl) ?_
        obtain ⟨r_19, x_20, c_21, hf⟩ := of_bnd hf
        refine cl_MO_207 C0 hap ho_v0 c_21 hP hS ⟨Nat.le_of_ble_eq_true rfl, Nat.le_of_ble_eq_true rfl⟩ hl.1 (Nat.le_of_ble_eq_true rfl) dd_MO_saves_50 ⟨Nat.le_refl _, Nat.le_refl _⟩ (fun H locs hP hS => ?_)
        refine lv_isub hx hb dd_MO_saves_53 ?_
        exact rrI C0 hP hS dd_MO_saves_54 hf
      · have hf := (if_pos h_15).symm.trans hf
        refine lv_iconst (v := -1) hx hb dd_MO_saves_39 (by decide) ?_
        refine lv_goto (tgt := 54) hx hb dd_MO_saves_40 (by decide) ?_
        exact rrI C0 hP hS dd_MO_saves_54 hf
  · have hf := (if_pos h_4).symm.trans hf
    refine lv_aload_n hx hb dd_MO_saves_8 rfl (lv_at hl 0 rfl) ?_
    obtain ⟨r_22, x_23, c_24, hf⟩ := of_bnd hf
    refine cl_MO_72 C0 hap ho_v0 c_24 hP hS ⟨Nat.le_of_ble_eq_true rfl, Nat.le_of_ble_eq_true rfl⟩ hl.1 (Nat.le_of_ble_eq_true rfl) dd_MO_saves_9 ⟨Nat.le_refl _, Nat.le_refl _⟩ (fun H locs hP hS => ?_)
    exact rrI C0 hP hS dd_MO_saves_12 hf
theorem cc_MO_saves {l : Launch} {E : Ev} {A : Nat → Prop} {ad : Nat → Nat} (hap : Ap ad ixM A) {x x' : St} {v0 : Nat} {v1 : Int32} {r : Int32} (ho_v0 : isO ixM v0 6) (hf : ff_MO_saves x v0 v1 = some (r, x')) : Met l yy_MO_saves (Cond.code yy_MO_saves bb_MO_saves 4 (some .int) :: gtb) rm_MO_saves (va_Pc [.ref (ad v0), .int v1] (PB E A ad ixM x)) (QX E ad ixM A (some (.int r)) x') 0 0 A := by
  exact enter (by decide) (Nat.le_of_ble_eq_true rfl) (fun p e s m below meth c ls C0 hP hS hl => ww_MO_saves C0 hap ho_v0 hf hP hS hl)
abbrev rm_MO_tears : Room := { frames := 5, cells := 0, slots := 0, locals := 113 }
theorem dd_MO_tears_0 : decode bb_MO_tears 0 = .ok (.aload_n 0, 1) := by decide +kernel
theorem dd_MO_tears_1 : decode bb_MO_tears 1 = .ok (.iload_n 1, 1) := by decide +kernel
theorem dd_MO_tears_2 : decode bb_MO_tears 2 = .ok (.invokevirtual 94, 3) := by decide +kernel
theorem dd_MO_tears_5 : decode bb_MO_tears 5 = .ok (.ifCond .eq 27, 3) := by decide +kernel
theorem dd_MO_tears_8 : decode bb_MO_tears 8 = .ok (.iload_n 2, 1) := by decide +kernel
theorem dd_MO_tears_9 : decode bb_MO_tears 9 = .ok (.iconst 0, 1) := by decide +kernel
theorem dd_MO_tears_10 : decode bb_MO_tears 10 = .ok (.bipush 99, 2) := by decide +kernel
theorem dd_MO_tears_12 : decode bb_MO_tears 12 = .ok (.invokestatic 64, 3) := by decide +kernel
theorem dd_MO_tears_15 : decode bb_MO_tears 15 = .ok (.ifCond .eq 17, 3) := by decide +kernel
theorem dd_MO_tears_18 : decode bb_MO_tears 18 = .ok (.iload_n 3, 1) := by decide +kernel
theorem dd_MO_tears_19 : decode bb_MO_tears 19 = .ok (.aload_n 0, 1) := by decide +kernel
theorem dd_MO_tears_20 : decode bb_MO_tears 20 = .ok (.iconst 5, 1) := by decide +kernel
theorem dd_MO_tears_21 : decode bb_MO_tears 21 = .ok (.invokevirtual 60, 3) := by decide +kernel
theorem dd_MO_tears_24 : decode bb_MO_tears 24 = .ok (.bipush 99, 2) := by decide +kernel
theorem dd_MO_tears_26 : decode bb_MO_tears 26 = .ok (.invokestatic 64, 3) := by decide +kernel
theorem dd_MO_tears_29 : decode bb_MO_tears 29 = .ok (.ifCond .ne 8, 3) := by decide +kernel
theorem dd_MO_tears_32 : decode bb_MO_tears 32 = .ok (.aload_n 0, 1) := by decide +kernel
theorem dd_MO_tears_33 : decode bb_MO_tears 33 = .ok (.invokevirtual 72, 3) := by decide +kernel
theorem dd_MO_tears_36 : decode bb_MO_tears 36 = .ok (.ireturn, 1) := by decide +kernel
theorem dd_MO_tears_37 : decode bb_MO_tears 37 = .ok (.aload_n 0, 1) := by decide +kernel
theorem dd_MO_tears_38 : decode bb_MO_tears 38 = .ok (.iconst (-1), 1) := by decide +kernel
theorem dd_MO_tears_39 : decode bb_MO_tears 39 = .ok (.invokevirtual 189, 3) := by decide +kernel
theorem dd_MO_tears_42 : decode bb_MO_tears 42 = .ok (.aload_n 0, 1) := by decide +kernel
theorem dd_MO_tears_43 : decode bb_MO_tears 43 = .ok (.getfield 28, 3) := by decide +kernel
theorem dd_MO_tears_46 : decode bb_MO_tears 46 = .ok (.bipush 100, 2) := by decide +kernel
theorem dd_MO_tears_48 : decode bb_MO_tears 48 = .ok (.iload_n 1, 1) := by decide +kernel
theorem dd_MO_tears_49 : decode bb_MO_tears 49 = .ok (.imul, 1) := by decide +kernel
theorem dd_MO_tears_50 : decode bb_MO_tears 50 = .ok (.aload_n 0, 1) := by decide +kernel
theorem dd_MO_tears_51 : decode bb_MO_tears 51 = .ok (.iconst 5, 1) := by decide +kernel
theorem dd_MO_tears_52 : decode bb_MO_tears 52 = .ok (.invokevirtual 60, 3) := by decide +kernel
theorem dd_MO_tears_55 : decode bb_MO_tears 55 = .ok (.iadd, 1) := by decide +kernel
theorem dd_MO_tears_56 : decode bb_MO_tears 56 = .ok (.iaload, 1) := by decide +kernel
theorem dd_MO_tears_57 : decode bb_MO_tears 57 = .ok (.istore 4, 2) := by decide +kernel
theorem dd_MO_tears_59 : decode bb_MO_tears 59 = .ok (.iconst 0, 1) := by decide +kernel
theorem dd_MO_tears_60 : decode bb_MO_tears 60 = .ok (.istore 5, 2) := by decide +kernel
theorem dd_MO_tears_62 : decode bb_MO_tears 62 = .ok (.iload 5, 2) := by decide +kernel
theorem dd_MO_tears_64 : decode bb_MO_tears 64 = .ok (.bipush 99, 2) := by decide +kernel
theorem dd_MO_tears_66 : decode bb_MO_tears 66 = .ok (.if_icmp .gt 36, 3) := by decide +kernel
theorem dd_MO_tears_69 : decode bb_MO_tears 69 = .ok (.aload_n 0, 1) := by decide +kernel
theorem dd_MO_tears_70 : decode bb_MO_tears 70 = .ok (.getfield 34, 3) := by decide +kernel
theorem dd_MO_tears_73 : decode bb_MO_tears 73 = .ok (.iload 5, 2) := by decide +kernel
theorem dd_MO_tears_75 : decode bb_MO_tears 75 = .ok (.iload 5, 2) := by decide +kernel
theorem dd_MO_tears_77 : decode bb_MO_tears 77 = .ok (.iload 4, 2) := by decide +kernel
theorem dd_MO_tears_79 : decode bb_MO_tears 79 = .ok (.if_icmp .ne 13, 3) := by decide +kernel
theorem dd_MO_tears_82 : decode bb_MO_tears 82 = .ok (.iload 5, 2) := by decide +kernel
theorem dd_MO_tears_84 : decode bb_MO_tears 84 = .ok (.iload_n 2, 1) := by decide +kernel
theorem dd_MO_tears_85 : decode bb_MO_tears 85 = .ok (.if_icmp .lt 7, 3) := by decide +kernel
theorem dd_MO_tears_88 : decode bb_MO_tears 88 = .ok (.iconst 0, 1) := by decide +kernel
theorem dd_MO_tears_89 : decode bb_MO_tears 89 = .ok (.goto 6, 3) := by decide +kernel
theorem dd_MO_tears_92 : decode bb_MO_tears 92 = .ok (.sipush 9999, 3) := by decide +kernel
theorem dd_MO_tears_95 : decode bb_MO_tears 95 = .ok (.iastore, 1) := by decide +kernel
theorem dd_MO_tears_96 : decode bb_MO_tears 96 = .ok (.iinc 5 1, 3) := by decide +kernel
theorem dd_MO_tears_99 : decode bb_MO_tears 99 = .ok (.goto (-37), 3) := by decide +kernel
theorem dd_MO_tears_102 : decode bb_MO_tears 102 = .ok (.aload_n 0, 1) := by decide +kernel
theorem dd_MO_tears_103 : decode bb_MO_tears 103 = .ok (.iconst 5, 1) := by decide +kernel
theorem dd_MO_tears_104 : decode bb_MO_tears 104 = .ok (.invokevirtual 60, 3) := by decide +kernel
theorem dd_MO_tears_107 : decode bb_MO_tears 107 = .ok (.iconst 1, 1) := by decide +kernel
theorem dd_MO_tears_108 : decode bb_MO_tears 108 = .ok (.iadd, 1) := by decide +kernel
theorem dd_MO_tears_109 : decode bb_MO_tears 109 = .ok (.istore 5, 2) := by decide +kernel
theorem dd_MO_tears_111 : decode bb_MO_tears 111 = .ok (.iload 5, 2) := by decide +kernel
theorem dd_MO_tears_113 : decode bb_MO_tears 113 = .ok (.iload_n 3, 1) := by decide +kernel
theorem dd_MO_tears_114 : decode bb_MO_tears 114 = .ok (.if_icmp .gt 170, 3) := by decide +kernel
theorem dd_MO_tears_117 : decode bb_MO_tears 117 = .ok (.iconst 0, 1) := by decide +kernel
theorem dd_MO_tears_118 : decode bb_MO_tears 118 = .ok (.istore 6, 2) := by decide +kernel
theorem dd_MO_tears_120 : decode bb_MO_tears 120 = .ok (.iload 6, 2) := by decide +kernel
theorem dd_MO_tears_122 : decode bb_MO_tears 122 = .ok (.bipush 99, 2) := by decide +kernel
theorem dd_MO_tears_124 : decode bb_MO_tears 124 = .ok (.if_icmp .gt 19, 3) := by decide +kernel
theorem dd_MO_tears_127 : decode bb_MO_tears 127 = .ok (.aload_n 0, 1) := by decide +kernel
theorem dd_MO_tears_128 : decode bb_MO_tears 128 = .ok (.getfield 37, 3) := by decide +kernel
theorem dd_MO_tears_131 : decode bb_MO_tears 131 = .ok (.iload 6, 2) := by decide +kernel
theorem dd_MO_tears_133 : decode bb_MO_tears 133 = .ok (.sipush 9999, 3) := by decide +kernel
theorem dd_MO_tears_136 : decode bb_MO_tears 136 = .ok (.iastore, 1) := by decide +kernel
theorem dd_MO_tears_137 : decode bb_MO_tears 137 = .ok (.iinc 6 1, 3) := by decide +kernel
theorem dd_MO_tears_140 : decode bb_MO_tears 140 = .ok (.goto (-20), 3) := by decide +kernel
theorem dd_MO_tears_143 : decode bb_MO_tears 143 = .ok (.iconst 0, 1) := by decide +kernel
theorem dd_MO_tears_144 : decode bb_MO_tears 144 = .ok (.istore 6, 2) := by decide +kernel
theorem dd_MO_tears_146 : decode bb_MO_tears 146 = .ok (.iload 6, 2) := by decide +kernel
theorem dd_MO_tears_148 : decode bb_MO_tears 148 = .ok (.bipush 99, 2) := by decide +kernel
theorem dd_MO_tears_150 : decode bb_MO_tears 150 = .ok (.if_icmp .gt 98, 3) := by decide +kernel
theorem dd_MO_tears_153 : decode bb_MO_tears 153 = .ok (.aload_n 0, 1) := by decide +kernel
theorem dd_MO_tears_154 : decode bb_MO_tears 154 = .ok (.iload_n 1, 1) := by decide +kernel
theorem dd_MO_tears_155 : decode bb_MO_tears 155 = .ok (.iload 6, 2) := by decide +kernel
theorem dd_MO_tears_157 : decode bb_MO_tears 157 = .ok (.iload 5, 2) := by decide +kernel
theorem dd_MO_tears_159 : decode bb_MO_tears 159 = .ok (.invokevirtual 186, 3) := by decide +kernel
theorem dd_MO_tears_162 : decode bb_MO_tears 162 = .ok (.istore 7, 2) := by decide +kernel
theorem dd_MO_tears_164 : decode bb_MO_tears 164 = .ok (.iconst 0, 1) := by decide +kernel
theorem dd_MO_tears_165 : decode bb_MO_tears 165 = .ok (.istore 8, 2) := by decide +kernel
theorem dd_MO_tears_167 : decode bb_MO_tears 167 = .ok (.iload 8, 2) := by decide +kernel
theorem dd_MO_tears_169 : decode bb_MO_tears 169 = .ok (.iconst 4, 1) := by decide +kernel
theorem dd_MO_tears_170 : decode bb_MO_tears 170 = .ok (.if_icmp .ge 72, 3) := by decide +kernel
theorem dd_MO_tears_173 : decode bb_MO_tears 173 = .ok (.aload_n 0, 1) := by decide +kernel
theorem dd_MO_tears_174 : decode bb_MO_tears 174 = .ok (.getfield 34, 3) := by decide +kernel
theorem dd_MO_tears_177 : decode bb_MO_tears 177 = .ok (.iload 6, 2) := by decide +kernel
theorem dd_MO_tears_179 : decode bb_MO_tears 179 = .ok (.iaload, 1) := by decide +kernel
theorem dd_MO_tears_180 : decode bb_MO_tears 180 = .ok (.sipush 9999, 3) := by decide +kernel
theorem dd_MO_tears_183 : decode bb_MO_tears 183 = .ok (.if_icmp .ge 46, 3) := by decide +kernel
theorem dd_MO_tears_186 : decode bb_MO_tears 186 = .ok (.iload 7, 2) := by decide +kernel
theorem dd_MO_tears_188 : decode bb_MO_tears 188 = .ok (.iload_n 2, 1) := by decide +kernel
theorem dd_MO_tears_189 : decode bb_MO_tears 189 = .ok (.if_icmp .lt 40, 3) := by decide +kernel
theorem dd_MO_tears_192 : decode bb_MO_tears 192 = .ok (.aload_n 0, 1) := by decide +kernel
theorem dd_MO_tears_193 : decode bb_MO_tears 193 = .ok (.getfield 34, 3) := by decide +kernel
theorem dd_MO_tears_196 : decode bb_MO_tears 196 = .ok (.iload 6, 2) := by decide +kernel
theorem dd_MO_tears_198 : decode bb_MO_tears 198 = .ok (.iaload, 1) := by decide +kernel
theorem dd_MO_tears_199 : decode bb_MO_tears 199 = .ok (.iload 8, 2) := by decide +kernel
theorem dd_MO_tears_201 : decode bb_MO_tears 201 = .ok (.iadd, 1) := by decide +kernel
theorem dd_MO_tears_202 : decode bb_MO_tears 202 = .ok (.aload_n 0, 1) := by decide +kernel
theorem dd_MO_tears_203 : decode bb_MO_tears 203 = .ok (.getfield 37, 3) := by decide +kernel
theorem dd_MO_tears_206 : decode bb_MO_tears 206 = .ok (.iload 7, 2) := by decide +kernel
theorem dd_MO_tears_208 : decode bb_MO_tears 208 = .ok (.iaload, 1) := by decide +kernel
theorem dd_MO_tears_209 : decode bb_MO_tears 209 = .ok (.if_icmp .ge 20, 3) := by decide +kernel
theorem dd_MO_tears_212 : decode bb_MO_tears 212 = .ok (.aload_n 0, 1) := by decide +kernel
theorem dd_MO_tears_213 : decode bb_MO_tears 213 = .ok (.getfield 37, 3) := by decide +kernel
theorem dd_MO_tears_216 : decode bb_MO_tears 216 = .ok (.iload 7, 2) := by decide +kernel
theorem dd_MO_tears_218 : decode bb_MO_tears 218 = .ok (.aload_n 0, 1) := by decide +kernel
theorem dd_MO_tears_219 : decode bb_MO_tears 219 = .ok (.getfield 34, 3) := by decide +kernel
theorem dd_MO_tears_222 : decode bb_MO_tears 222 = .ok (.iload 6, 2) := by decide +kernel
theorem dd_MO_tears_224 : decode bb_MO_tears 224 = .ok (.iaload, 1) := by decide +kernel
theorem dd_MO_tears_225 : decode bb_MO_tears 225 = .ok (.iload 8, 2) := by decide +kernel
theorem dd_MO_tears_227 : decode bb_MO_tears 227 = .ok (.iadd, 1) := by decide +kernel
theorem dd_MO_tears_228 : decode bb_MO_tears 228 = .ok (.iastore, 1) := by decide +kernel
theorem dd_MO_tears_229 : decode bb_MO_tears 229 = .ok (.iload 7, 2) := by decide +kernel
theorem dd_MO_tears_231 : decode bb_MO_tears 231 = .ok (.invokestatic 183, 3) := by decide +kernel
theorem dd_MO_tears_234 : decode bb_MO_tears 234 = .ok (.istore 7, 2) := by decide +kernel
theorem dd_MO_tears_236 : decode bb_MO_tears 236 = .ok (.iinc 8 1, 3) := by decide +kernel
theorem dd_MO_tears_239 : decode bb_MO_tears 239 = .ok (.goto (-72), 3) := by decide +kernel
theorem dd_MO_tears_242 : decode bb_MO_tears 242 = .ok (.iinc 6 1, 3) := by decide +kernel
theorem dd_MO_tears_245 : decode bb_MO_tears 245 = .ok (.goto (-99), 3) := by decide +kernel
theorem dd_MO_tears_248 : decode bb_MO_tears 248 = .ok (.iconst 0, 1) := by decide +kernel
theorem dd_MO_tears_249 : decode bb_MO_tears 249 = .ok (.istore 6, 2) := by decide +kernel
theorem dd_MO_tears_251 : decode bb_MO_tears 251 = .ok (.iload 6, 2) := by decide +kernel
theorem dd_MO_tears_253 : decode bb_MO_tears 253 = .ok (.bipush 99, 2) := by decide +kernel
theorem dd_MO_tears_255 : decode bb_MO_tears 255 = .ok (.if_icmp .gt 23, 3) := by decide +kernel
theorem dd_MO_tears_258 : decode bb_MO_tears 258 = .ok (.aload_n 0, 1) := by decide +kernel
theorem dd_MO_tears_259 : decode bb_MO_tears 259 = .ok (.getfield 34, 3) := by decide +kernel
theorem dd_MO_tears_262 : decode bb_MO_tears 262 = .ok (.iload 6, 2) := by decide +kernel
theorem dd_MO_tears_264 : decode bb_MO_tears 264 = .ok (.aload_n 0, 1) := by decide +kernel
theorem dd_MO_tears_265 : decode bb_MO_tears 265 = .ok (.getfield 37, 3) := by decide +kernel
theorem dd_MO_tears_268 : decode bb_MO_tears 268 = .ok (.iload 6, 2) := by decide +kernel
theorem dd_MO_tears_270 : decode bb_MO_tears 270 = .ok (.iaload, 1) := by decide +kernel
theorem dd_MO_tears_271 : decode bb_MO_tears 271 = .ok (.iastore, 1) := by decide +kernel
theorem dd_MO_tears_272 : decode bb_MO_tears 272 = .ok (.iinc 6 1, 3) := by decide +kernel
theorem dd_MO_tears_275 : decode bb_MO_tears 275 = .ok (.goto (-24), 3) := by decide +kernel
theorem dd_MO_tears_278 : decode bb_MO_tears 278 = .ok (.iinc 5 1, 3) := by decide +kernel
theorem dd_MO_tears_281 : decode bb_MO_tears 281 = .ok (.goto (-170), 3) := by decide +kernel
theorem dd_MO_tears_284 : decode bb_MO_tears 284 = .ok (.sipush 9999, 3) := by decide +kernel
theorem dd_MO_tears_287 : decode bb_MO_tears 287 = .ok (.istore 5, 2) := by decide +kernel
theorem dd_MO_tears_289 : decode bb_MO_tears 289 = .ok (.iconst 0, 1) := by decide +kernel
theorem dd_MO_tears_290 : decode bb_MO_tears 290 = .ok (.istore 6, 2) := by decide +kernel
theorem dd_MO_tears_292 : decode bb_MO_tears 292 = .ok (.iload 6, 2) := by decide +kernel
theorem dd_MO_tears_294 : decode bb_MO_tears 294 = .ok (.bipush 99, 2) := by decide +kernel
theorem dd_MO_tears_296 : decode bb_MO_tears 296 = .ok (.if_icmp .gt 35, 3) := by decide +kernel
theorem dd_MO_tears_299 : decode bb_MO_tears 299 = .ok (.aload_n 0, 1) := by decide +kernel
theorem dd_MO_tears_300 : decode bb_MO_tears 300 = .ok (.getfield 34, 3) := by decide +kernel
theorem dd_MO_tears_303 : decode bb_MO_tears 303 = .ok (.iload 6, 2) := by decide +kernel
theorem dd_MO_tears_305 : decode bb_MO_tears 305 = .ok (.iaload, 1) := by decide +kernel
theorem dd_MO_tears_306 : decode bb_MO_tears 306 = .ok (.iload 5, 2) := by decide +kernel
theorem dd_MO_tears_308 : decode bb_MO_tears 308 = .ok (.if_icmp .ge 13, 3) := by decide +kernel
theorem dd_MO_tears_311 : decode bb_MO_tears 311 = .ok (.aload_n 0, 1) := by decide +kernel
theorem dd_MO_tears_312 : decode bb_MO_tears 312 = .ok (.getfield 34, 3) := by decide +kernel
theorem dd_MO_tears_315 : decode bb_MO_tears 315 = .ok (.iload 6, 2) := by decide +kernel
theorem dd_MO_tears_317 : decode bb_MO_tears 317 = .ok (.iaload, 1) := by decide +kernel
theorem dd_MO_tears_318 : decode bb_MO_tears 318 = .ok (.goto 5, 3) := by decide +kernel
theorem dd_MO_tears_321 : decode bb_MO_tears 321 = .ok (.iload 5, 2) := by decide +kernel
theorem dd_MO_tears_323 : decode bb_MO_tears 323 = .ok (.istore 5, 2) := by decide +kernel
theorem dd_MO_tears_325 : decode bb_MO_tears 325 = .ok (.iinc 6 1, 3) := by decide +kernel
theorem dd_MO_tears_328 : decode bb_MO_tears 328 = .ok (.goto (-36), 3) := by decide +kernel
theorem dd_MO_tears_331 : decode bb_MO_tears 331 = .ok (.iload 5, 2) := by decide +kernel
theorem dd_MO_tears_333 : decode bb_MO_tears 333 = .ok (.sipush 9999, 3) := by decide +kernel
theorem dd_MO_tears_336 : decode bb_MO_tears 336 = .ok (.if_icmp .ne 7, 3) := by decide +kernel
theorem dd_MO_tears_339 : decode bb_MO_tears 339 = .ok (.iconst (-1), 1) := by decide +kernel
theorem dd_MO_tears_340 : decode bb_MO_tears 340 = .ok (.goto 5, 3) := by decide +kernel
theorem dd_MO_tears_343 : decode bb_MO_tears 343 = .ok (.iload 5, 2) := by decide +kernel
theorem dd_MO_tears_345 : decode bb_MO_tears 345 = .ok (.ireturn, 1) := by decide +kernel
def ff_MO_tears_331  (x : St) (v5 : Int32) : Option (Int32 × St) := (if v5 = 9999 then some ((-1), x) else some (v5, x))
def ff_MO_tears_292  : Nat → St → Nat → Int32 → Int32 → Option (Int32 × St)
  | 0, _, _, _, _ => none
  | n + 1, x, v0, v5, v6 => (if 99 < v6 then ff_MO_tears_331 x v5 else (if ixb v6 (ln (rf v0 16)) = true then (if v5 ≤ (gi x (rf v0 16) (ix v6)) then ff_MO_tears_292 n x v0 v5 (v6 + 1) else (if ixb v6 (ln (rf v0 16)) = true then ff_MO_tears_292 n x v0 (gi x (rf v0 16) (ix v6)) (v6 + 1) else none)) else none))
def ff_MO_tears_284  (x : St) (v0 : Nat) : Option (Int32 × St) := ff_MO_tears_292 FU x v0 9999 0
def ff_MO_tears_251 (k_111 : St → Nat → Int32 → Int32 → Int32 → Int32 → Option (Int32 × St)) : Nat → St → Nat → Int32 → Int32 → Int32 → Int32 → Int32 → Option (Int32 × St)
  | 0, _, _, _, _, _, _, _ => none
  | n + 1, x, v0, v1, v2, v3, v5, v6 => (if 99 < v6 then k_111 x v0 v1 v2 v3 (v5 + 1) else (if ixb v6 (ln (rf v0 17)) = true then (if ixb v6 (ln (rf v0 16)) = true then st (si x (rf v0 16) (ix v6) (gi x (rf v0 17) (ix v6))) (fun x_45 => ff_MO_tears_251 k_111 n x_45 v0 v1 v2 v3 v5 (v6 + 1)) else none) else none))
def ff_MO_tears_167 (k_111 : St → Nat → Int32 → Int32 → Int32 → Int32 → Option (Int32 × St)) (k_146 : St → Nat → Int32 → Int32 → Int32 → Int32 → Int32 → Option (Int32 × St)) : Nat → St → Nat → Int32 → Int32 → Int32 → Int32 → Int32 → Int32 → Int32 → Option (Int32 × St)
  | 0, _, _, _, _, _, _, _, _, _ => none
  | n + 1, x, v0, v1, v2, v3, v5, v6, v7, v8 => (if 4 ≤ v8 then k_146 x v0 v1 v2 v3 v5 (v6 + 1) else (if ixb v6 (ln (rf v0 16)) = true then (if 9999 ≤ (gi x (rf v0 16) (ix v6)) then bnd (ff_MO_more x v7) (fun r_52 x_53 => ff_MO_tears_167 k_111 k_146 n x_53 v0 v1 v2 v3 v5 v6 r_52 (v8 + 1)) else (if v7 < v2 then bnd (ff_MO_more x v7) (fun r_56 x_57 => ff_MO_tears_167 k_111 k_146 n x_57 v0 v1 v2 v3 v5 v6 r_56 (v8 + 1)) else (if ixb v6 (ln (rf v0 16)) = true then (if ixb v7 (ln (rf v0 17)) = true then (if (gi x (rf v0 17) (ix v7)) ≤ ((gi x (rf v0 16) (ix v6)) + v8) then bnd (ff_MO_more x v7) (fun r_62 x_63 => ff_MO_tears_167 k_111 k_146 n x_63 v0 v1 v2 v3 v5 v6 r_62 (v8 + 1)) else (if ixb v6 (ln (rf v0 16)) = true then (if ixb v7 (ln (rf v0 17)) = true then st (si x (rf v0 17) (ix v7) ((gi x (rf v0 16) (ix v6)) + v8)) (fun x_67 => bnd (ff_MO_more x_67 v7) (fun r_68 x_69 => ff_MO_tears_167 k_111 k_146 n x_69 v0 v1 v2 v3 v5 v6 r_68 (v8 + 1))) else none) else none)) else none) else none))) else none))
def ff_MO_tears_146 (k_111 : St → Nat → Int32 → Int32 → Int32 → Int32 → Option (Int32 × St)) : Nat → St → Nat → Int32 → Int32 → Int32 → Int32 → Int32 → Option (Int32 × St)
  | 0, _, _, _, _, _, _, _ => none
  | n + 1, x, v0, v1, v2, v3, v5, v6 => (if 99 < v6 then ff_MO_tears_251 k_111 FU x v0 v1 v2 v3 v5 0 else bnd (ff_MO_onDay x v0 v1 v6 v5) (fun r_46 x_47 => ff_MO_tears_167 k_111 (ff_MO_tears_146 k_111 n) FU x_47 v0 v1 v2 v3 v5 v6 r_46 0))
def ff_MO_tears_120 (k_111 : St → Nat → Int32 → Int32 → Int32 → Int32 → Option (Int32 × St)) : Nat → St → Nat → Int32 → Int32 → Int32 → Int32 → Int32 → Option (Int32 × St)
  | 0, _, _, _, _, _, _, _ => none
  | n + 1, x, v0, v1, v2, v3, v5, v6 => (if 99 < v6 then ff_MO_tears_146 k_111 FU x v0 v1 v2 v3 v5 0 else (if ixb v6 (ln (rf v0 17)) = true then st (si x (rf v0 17) (ix v6) 9999) (fun x_72 => ff_MO_tears_120 k_111 n x_72 v0 v1 v2 v3 v5 (v6 + 1)) else none))
def ff_MO_tears_111  : Nat → St → Nat → Int32 → Int32 → Int32 → Int32 → Option (Int32 × St)
  | 0, _, _, _, _, _, _ => none
  | n + 1, x, v0, v1, v2, v3, v5 => (if v3 < v5 then ff_MO_tears_284 x v0 else ff_MO_tears_120 (ff_MO_tears_111 n) FU x v0 v1 v2 v3 v5 0)
def ff_MO_tears_102  (x : St) (v0 : Nat) (v1 : Int32) (v2 : Int32) (v3 : Int32) : Option (Int32 × St) := bnd (ff_MO_get x v0 5) (fun r_31 x_32 => ff_MO_tears_111 FU x_32 v0 v1 v2 v3 (r_31 + 1))
def ff_MO_tears_62  : Nat → St → Nat → Int32 → Int32 → Int32 → Int32 → Int32 → Option (Int32 × St)
  | 0, _, _, _, _, _, _, _ => none
  | n + 1, x, v0, v1, v2, v3, v4, v5 => (if 99 < v5 then ff_MO_tears_102 x v0 v1 v2 v3 else (if v5 = v4 then (if v5 < v2 then (if ixb v5 (ln (rf v0 16)) = true then st (si x (rf v0 16) (ix v5) 9999) (fun x_78 => ff_MO_tears_62 n x_78 v0 v1 v2 v3 v4 (v5 + 1)) else none) else (if ixb v5 (ln (rf v0 16)) = true then st (si x (rf v0 16) (ix v5) 0) (fun x_80 => ff_MO_tears_62 n x_80 v0 v1 v2 v3 v4 (v5 + 1)) else none)) else (if ixb v5 (ln (rf v0 16)) = true then st (si x (rf v0 16) (ix v5) 9999) (fun x_75 => ff_MO_tears_62 n x_75 v0 v1 v2 v3 v4 (v5 + 1)) else none)))
def ff_MO_tears  (x : St) (v0 : Nat) (v1 : Int32) (v2 : Int32) (v3 : Int32) : Option (Int32 × St) := bnd (ff_MO_isMourner x v0 v1) (fun r_1 x_2 => (if r_1 = 0 then bnd (ff_MO_bad x_2 v0) (fun r_5 x_6 => some (r_5, x_6)) else bnd (ff_MO_in x_2 v2 0 99) (fun r_8 x_9 => (if r_8 = 0 then bnd (ff_MO_bad x_9 v0) (fun r_12 x_13 => some (r_12, x_13)) else bnd (ff_MO_get x_9 v0 5) (fun r_15 x_16 => bnd (ff_MO_in x_16 v3 r_15 99) (fun r_18 x_19 => (if r_18 = 0 then bnd (ff_MO_bad x_19 v0) (fun r_81 x_82 => some (r_81, x_82)) else bnd (ff_MO_findGriefs x_19 v0 (-1)) (fun _ x_23 => bnd (ff_MO_get x_23 v0 5) (fun r_25 x_26 => (if ixb ((100 * v1) + r_25) (ln (rf v0 14)) = true then li (gi x_26 (rf v0 14) (ix ((100 * v1) + r_25))) (fun u_29 => ff_MO_tears_62 FU x_26 v0 v1 v2 v3 u_29 0) else none))))))))))
set_option maxHeartbeats 4000000 in
set_option maxRecDepth 100000 in
theorem ww_MO_tears_331 {p : Program} {l : Launch} {e : Env} {s : State} {m : MethodId} {args : Array Value} {below : List Frame} {meth : Method} {c : Code} {E : Ev} {A : Nat → Prop} {ad : Nat → Nat} {r : Int32} {x' : St} (C0 : Cx E A RMO bb_MO_tears 9 (some .int) p s m args meth c) (hap : Ap ad ixM A)  {x : St} {v5 : Int32}  (hf : ff_MO_tears_331 x v5 = some (r, x')) {H : Heap} {locs : List Loc} {ls : Array Slot} (hP : Wd E ad ixM x H) (hS : va_S A s.heap H locs) (hl : lv_has ls 9 [(5, .int v5)]) : W p l e rm_MO_tears s m args below meth c H locs 0 0 (MQ below (QX E ad ixM A (some (.int r)) x') args s 0 0 A) (F0 m 331 ls []) := by
  obtain ⟨hx, hb, hml, hr, hown, hts, hlk, hK⟩ := id C0
  have hf : (if v5 = 9999 then some ((-1), x) else some (v5, x)) = some (r, x') := hf
  refine lv_iload hx hb dd_MO_tears_331 (lv_at hl 0 rfl) ?_
  refine lv_sipush (v := 9999) hx hb dd_MO_tears_333 (by decide) ?_
  refine lv_icmp_ne (tgt := 343) hx hb dd_MO_tears_336 (by decide) (fun h_36 => ?_) (fun h_36 => ?_)
  · have hf := (if_neg h_36).symm.trans hf
    refine lv_iload hx hb dd_MO_tears_343 (lv_at hl 0 rfl) ?_
    exact rrI C0 hP hS dd_MO_tears_345 hf
  · have hf := (if_pos h_36).symm.trans hf
    refine lv_iconst (v := -1) hx hb dd_MO_tears_339 (by decide) ?_
    refine lv_goto (tgt := 345) hx hb dd_MO_tears_340 (by decide) ?_
    exact rrI C0 hP hS dd_MO_tears_345 hf
set_option maxHeartbeats 4000000 in
set_option maxRecDepth 100000 in
theorem ww_MO_tears_292 {p : Program} {l : Launch} {e : Env} {s : State} {m : MethodId} {args : Array Value} {below : List Frame} {meth : Method} {c : Code} {E : Ev} {A : Nat → Prop} {ad : Nat → Nat} {r : Int32} {x' : St} (C0 : Cx E A RMO bb_MO_tears 9 (some .int) p s m args meth c) (hap : Ap ad ixM A)  : ∀ (n : Nat), ∀ (x : St) (v0 : Nat) (v5 : Int32) (v6 : Int32), (isO ixM v0 6) → ff_MO_tears_292 n x v0 v5 v6 = some (r, x') → ∀ (H : Heap) (locs : List Loc) (ls : Array Slot), Wd E ad ixM x H → va_S A s.heap H locs → lv_has ls 9 [(0, .ref (ad v0)), (5, .int v5), (6, .int v6)] → W p l e rm_MO_tears s m args below meth c H locs 0 0 (MQ below (QX E ad ixM A (some (.int r)) x') args s 0 0 A) (F0 m 292 ls []) := by
  obtain ⟨hx, hb, hml, hr, hown, hts, hlk, hK⟩ := id C0
  intro n
  induction n with
  | zero => intro x v0 v5 v6 ho_v0 hf; exact of_no hf
  | succ n ih =>
    intro x v0 v5 v6 ho_v0 hf H locs ls hP hS hl
    have hf : (if 99 < v6 then ff_MO_tears_331 x v5 else (if ixb v6 (ln (rf v0 16)) = true then (if v5 ≤ (gi x (rf v0 16) (ix v6)) then ff_MO_tears_292 n x v0 v5 (v6 + 1) else (if ixb v6 (ln (rf v0 16)) = true then ff_MO_tears_292 n x v0 (gi x (rf v0 16) (ix v6)) (v6 + 1) else none)) else none)) = some (r, x') := hf
    refine lv_iload hx hb dd_MO_tears_292 (lv_at hl 2 rfl) ?_
    refine lv_bipush (v := 99) hx hb dd_MO_tears_294 (by decide) ?_
    refine lv_icmp_gt (tgt := 331) hx hb dd_MO_tears_296 (by decide) (fun h_35 => ?_) (fun h_35 => ?_)
    · have hf := (if_pos h_35).symm.trans hf
      exact ww_MO_tears_331 C0 hap   hf hP hS (lv_sub hl [1] rfl)
    · have hf := (if_neg h_35).symm.trans hf
      refine lv_aload_n hx hb dd_MO_tears_299 rfl (lv_at hl 0 rfl) ?_
      refine gf_MO_34 C0 hP ho_v0 dd_MO_tears_300 ?_
      refine lv_iload hx hb dd_MO_tears_303 (lv_at hl 2 rfl) ?_
      obtain ⟨h_37, hf⟩ := of_ifb hf
      refine raI C0 hP (tp_6_16 ho_v0) h_37 dd_MO_tears_305 ?_
      refine lv_iload hx hb dd_MO_tears_306 (lv_at hl 1 rfl) ?_
      refine lv_icmp_ge (tgt := 321) hx hb dd_MO_tears_308 (by decide) (fun h_38 => ?_) (fun h_38 => ?_)
      · have hf := (if_pos h_38).symm.trans hf
        refine lv_iload hx hb dd_MO_tears_321 (lv_at hl 1 rfl) ?_
        refine lv_istore (lv' := [(5, .int v5), (0, .ref (ad v0)), (6, .int v6)]) hx hb dd_MO_tears_323 hl (by decide) rfl (fun ls hl => ?_)
        refine lv_iinc (v := v6 + 1) (lv' := [(6, .int (v6 + 1)), (5, .int v5), (0, .ref (ad v0))]) hx hb dd_MO_tears_325 hl (k := 2) rfl rfl (by decide) rfl (fun ls hl => ?_)
        refine lv_goto (tgt := 292) hx hb dd_MO_tears_328 (by decide) ?_
        exact ih x v0 v5 (v6 + 1) ho_v0 hf _ _ _ hP hS (lv_sub hl [2, 1, 0] rfl)
      · have hf := (if_neg h_38).symm.trans hf
        refine lv_aload_n hx hb dd_MO_tears_311 rfl (lv_at hl 0 rfl) ?_
        refine gf_MO_34 C0 hP ho_v0 dd_MO_tears_312 ?_
        refine lv_iload hx hb dd_MO_tears_315 (lv_at hl 2 rfl) ?_
        obtain ⟨h_39, hf⟩ := of_ifb hf
        refine raI C0 hP (tp_6_16 ho_v0) h_39 dd_MO_tears_317 ?_
        refine lv_goto (tgt := 323) hx hb dd_MO_tears_318 (by decide) ?_
        refine lv_istore (lv' := [(5, .int (gi x (rf v0 16) (ix v6))), (0, .ref (ad v0)), (6, .int v6)]) hx hb dd_MO_tears_323 hl (by decide) rfl (fun ls hl => ?_)
        refine lv_iinc (v := v6 + 1) (lv' := [(6, .int (v6 + 1)), (5, .int (gi x (rf v0 16) (ix v6))), (0, .ref (ad v0))]) hx hb dd_MO_tears_325 hl (k := 2) rfl rfl (by decide) rfl (fun ls hl => ?_)
        refine lv_goto (tgt := 292) hx hb dd_MO_tears_328 (by decide) ?_
        exact ih x v0 (gi x (rf v0 16) (ix v6)) (v6 + 1) ho_v0 hf _ _ _ hP hS (lv_sub hl [2, 1, 0] rfl)
set_option maxHeartbeats 4000000 in
set_option maxRecDepth 100000 in
theorem ww_MO_tears_284 {p : Program} {l : Launch} {e : Env} {s : State} {m : MethodId} {args : Array Value} {below : List Frame} {meth : Method} {c : Code} {E : Ev} {A : Nat → Prop} {ad : Nat → Nat} {r : Int32} {x' : St} (C0 : Cx E A RMO bb_MO_tears 9 (some .int) p s m args meth c) (hap : Ap ad ixM A)  {x : St} {v0 : Nat} (ho_v0 : isO ixM v0 6) (hf : ff_MO_tears_284 x v0 = some (r, x')) {H : Heap} {locs : List Loc} {ls : Array Slot} (hP : Wd E ad ixM x H) (hS : va_S A s.heap H locs) (hl : lv_has ls 9 [(0, .ref (ad v0))]) : W p l e rm_MO_tears s m args below meth c H locs 0 0 (MQ below (QX E ad ixM A (some (.int r)) x') args s 0 0 A) (F0 m 284 ls []) := by
  obtain ⟨hx, hb, hml, hr, hown, hts, hlk, hK⟩ := id C0
  have hf : ff_MO_tears_292 FU x v0 9999 0 = some (r, x') := hf
  refine lv_sipush (v := 9999) hx hb dd_MO_tears_284 (by decide) ?_
  refine lv_istore (lv' := [(5, .int 9999), (0, .ref (ad v0))]) hx hb dd_MO_tears_287 hl (by decide) rfl (fun ls hl => ?_)
  refine lv_iconst (v := 0) hx hb dd_MO_tears_289 (by decide) ?_
  refine lv_istore (lv' := [(6, .int 0), (5, .int 9999), (0, .ref (ad v0))]) hx hb dd_MO_tears_290 hl (by decide) rfl (fun ls hl => ?_)
  exact ww_MO_tears_292 C0 hap  FU x v0 9999 0 ho_v0 hf _ _ _ hP hS (lv_sub hl [2, 1, 0] rfl)
set_option maxHeartbeats 4000000 in
set_option maxRecDepth 100000 in
theorem ww_MO_tears_251 {p : Program} {l : Launch} {e : Env} {s : State} {m : MethodId} {args : Array Value} {below : List Frame} {meth : Method} {c : Code} {E : Ev} {A : Nat → Prop} {ad : Nat → Nat} {r : Int32} {x' : St} (C0 : Cx E A RMO bb_MO_tears 9 (some .int) p s m args meth c) (hap : Ap ad ixM A) {k_111 : St → Nat → Int32 → Int32 → Int32 → Int32 → Option (Int32 × St)} (hk_111 : ∀ (x : St) (v0 : Nat) (v1 : Int32) (v2 : Int32) (v3 : Int32) (v5 : Int32), (isO ixM v0 6) → k_111 x v0 v1 v2 v3 v5 = some (r, x') → ∀ (H : Heap) (locs : List Loc) (ls : Array Slot), Wd E ad ixM x H → va_S A s.heap H locs → lv_has ls 9 [(0, .ref (ad v0)), (1, .int v1), (2, .int v2), (3, .int v3), (5, .int v5)] → W p l e rm_MO_tears s m args below meth c H locs 0 0 (MQ below (QX E ad ixM A (some (.int r)) x') args s 0 0 A) (F0 m 111 ls [])) : ∀ (n : Nat), ∀ (x : St) (v0 : Nat) (v1 : Int32) (v2 : Int32) (v3 : Int32) (v5 : Int32) (v6 : Int32), (isO ixM v0 6) → ff_MO_tears_251 k_111 n x v0 v1 v2 v3 v5 v6 = some (r, x') → ∀ (H : Heap) (locs : List Loc) (ls : Array Slot), Wd E ad ixM x H → va_S A s.heap H locs → lv_has ls 9 [(0, .ref (ad v0)), (1, .int v1), (2, .int v2), (3, .int v3), (5, .int v5), (6, .int v6)] → W p l e rm_MO_tears s m args below meth c H locs 0 0 (MQ below (QX E ad ixM A (some (.int r)) x') args s 0 0 A) (F0 m 251 ls []) := by
  obtain ⟨hx, hb, hml, hr, hown, hts, hlk, hK⟩ := id C0
  intro n
  induction n with
  | zero => intro x v0 v1 v2 v3 v5 v6 ho_v0 hf; exact of_no hf
  | succ n ih =>
    intro x v0 v1 v2 v3 v5 v6 ho_v0 hf H locs ls hP hS hl
    have hf : (if 99 < v6 then k_111 x v0 v1 v2 v3 (v5 + 1) else (if ixb v6 (ln (rf v0 17)) = true then (if ixb v6 (ln (rf v0 16)) = true then st (si x (rf v0 16) (ix v6) (gi x (rf v0 17) (ix v6))) (fun x_45 => ff_MO_tears_251 k_111 n x_45 v0 v1 v2 v3 v5 (v6 + 1)) else none) else none)) = some (r, x') := hf
    refine lv_iload hx hb dd_MO_tears_251 (lv_at hl 5 rfl) ?_
    refine lv_bipush (v := 99) hx hb dd_MO_tears_253 (by decide) ?_
    refine lv_icmp_gt (tgt := 278) hx hb dd_MO_tears_255 (by decide) (fun h_42 => ?_) (fun h_42 => ?_)
    · have hf := (if_pos h_42).symm.trans hf
      refine lv_iinc (v := v5 + 1) (lv' := [(5, .int (v5 + 1)), (0, .ref (ad v0)), (1, .int v1), (2, .int v2), (3, .int v3), (6, .int v6)]) hx hb dd_MO_tears_278 hl (k := 4) rfl rfl (by decide) rfl (fun ls hl => ?_)
      refine lv_goto (tgt := 111) hx hb dd_MO_tears_281 (by decide) ?_
      exact hk_111 x v0 v1 v2 v3 (v5 + 1) ho_v0 hf _ _ _ hP hS (lv_sub hl [1, 2, 3, 4, 0] rfl)
    · have hf := (if_neg h_42).symm.trans hf
      refine lv_aload_n hx hb dd_MO_tears_258 rfl (lv_at hl 0 rfl) ?_
      refine gf_MO_34 C0 hP ho_v0 dd_MO_tears_259 ?_
      refine lv_iload hx hb dd_MO_tears_262 (lv_at hl 5 rfl) ?_
      refine lv_aload_n hx hb dd_MO_tears_264 rfl (lv_at hl 0 rfl) ?_
      refine gf_MO_37 C0 hP ho_v0 dd_MO_tears_265 ?_
      refine lv_iload hx hb dd_MO_tears_268 (lv_at hl 5 rfl) ?_
      obtain ⟨h_43, hf⟩ := of_ifb hf
      refine raI C0 hP (tp_6_17 ho_v0) h_43 dd_MO_tears_270 ?_
      obtain ⟨h_44, hf⟩ := of_ifb hf
      obtain ⟨x_45, hx_45, hf⟩ := of_st hf
      refine sI C0 hap hP hS (tp_6_16 ho_v0) h_44 hx_45 dd_MO_tears_271 (fun H locs hP hS => ?_)
      refine lv_iinc (v := v6 + 1) (lv' := [(6, .int (v6 + 1)), (0, .ref (ad v0)), (1, .int v1), (2, .int v2), (3, .int v3), (5, .int v5)]) hx hb dd_MO_tears_272 hl (k := 5) rfl rfl (by decide) rfl (fun ls hl => ?_)
      refine lv_goto (tgt := 251) hx hb dd_MO_tears_275 (by decide) ?_
      exact ih x_45 v0 v1 v2 v3 v5 (v6 + 1) ho_v0 hf _ _ _ hP hS (lv_sub hl [1, 2, 3, 4, 5, 0] rfl)
set_option maxHeartbeats 4000000 in
set_option maxRecDepth 100000 in
theorem ww_MO_tears_167 {p : Program} {l : Launch} {e : Env} {s : State} {m : MethodId} {args : Array Value} {below : List Frame} {meth : Method} {c : Code} {E : Ev} {A : Nat → Prop} {ad : Nat → Nat} {r : Int32} {x' : St} (C0 : Cx E A RMO bb_MO_tears 9 (some .int) p s m args meth c) (hap : Ap ad ixM A) {k_111 : St → Nat → Int32 → Int32 → Int32 → Int32 → Option (Int32 × St)} (hk_111 : ∀ (x : St) (v0 : Nat) (v1 : Int32) (v2 : Int32) (v3 : Int32) (v5 : Int32), (isO ixM v0 6) → k_111 x v0 v1 v2 v3 v5 = some (r, x') → ∀ (H : Heap) (locs : List Loc) (ls : Array Slot), Wd E ad ixM x H → va_S A s.heap H locs → lv_has ls 9 [(0, .ref (ad v0)), (1, .int v1), (2, .int v2), (3, .int v3), (5, .int v5)] → W p l e rm_MO_tears s m args below meth c H locs 0 0 (MQ below (QX E ad ixM A (some (.int r)) x') args s 0 0 A) (F0 m 111 ls [])) {k_146 : St → Nat → Int32 → Int32 → Int32 → Int32 → Int32 → Option (Int32 × St)} (hk_146 : ∀ (x : St) (v0 : Nat) (v1 : Int32) (v2 : Int32) (v3 : Int32) (v5 : Int32) (v6 : Int32), (isO ixM v0 6) → k_146 x v0 v1 v2 v3 v5 v6 = some (r, x') → ∀ (H : Heap) (locs : List Loc) (ls : Array Slot), Wd E ad ixM x H → va_S A s.heap H locs → lv_has ls 9 [(0, .ref (ad v0)), (1, .int v1), (2, .int v2), (3, .int v3), (5, .int v5), (6, .int v6)] → W p l e rm_MO_tears s m args below meth c H locs 0 0 (MQ below (QX E ad ixM A (some (.int r)) x') args s 0 0 A) (F0 m 146 ls [])) : ∀ (n : Nat), ∀ (x : St) (v0 : Nat) (v1 : Int32) (v2 : Int32) (v3 : Int32) (v5 : Int32) (v6 : Int32) (v7 : Int32) (v8 : Int32), (isO ixM v0 6) → ff_MO_tears_167 k_111 k_146 n x v0 v1 v2 v3 v5 v6 v7 v8 = some (r, x') → ∀ (H : Heap) (locs : List Loc) (ls : Array Slot), Wd E ad ixM x H → va_S A s.heap H locs → lv_has ls 9 [(0, .ref (ad v0)), (1, .int v1), (2, .int v2), (3, .int v3), (5, .int v5), (6, .int v6), (7, .int v7), (8, .int v8)] → W p l e rm_MO_tears s m args below meth c H locs 0 0 (MQ below (QX E ad ixM A (some (.int r)) x') args s 0 0 A) (F0 m 167 ls []) := by
  obtain ⟨hx, hb, hml, hr, hown, hts, hlk, hK⟩ := id C0
  intro n
  induction n with
  | zero => intro x v0 v1 v2 v3 v5 v6 v7 v8 ho_v0 hf; exact of_no hf
  | succ n ih =>
    intro x v0 v1 v2 v3 v5 v6 v7 v8 ho_v0 hf H locs ls hP hS hl
    have hf : (if 4 ≤ v8 then k_146 x v0 v1 v2 v3 v5 (v6 + 1) else (if ixb v6 (ln (rf v0 16)) = true then (if 9999 ≤ (gi x (rf v0 16) (ix v6)) then bnd (ff_MO_more x v7) (fun r_52 x_53 => ff_MO_tears_167 k_111 k_146 n x_53 v0 v1 v2 v3 v5 v6 r_52 (v8 + 1)) else (if v7 < v2 then bnd (ff_MO_more x v7) (fun r_56 x_57 => ff_MO_tears_167 k_111 k_146 n x_57 v0 v1 v2 v3 v5 v6 r_56 (v8 + 1)) else (if ixb v6 (ln (rf v0 16)) = true then (if ixb v7 (ln (rf v0 17)) = true then (if (gi x (rf v0 17) (ix v7)) ≤ ((gi x (rf v0 16) (ix v6)) + v8) then bnd (ff_MO_more x v7) (fun r_62 x_63 => ff_MO_tears_167 k_111 k_146 n x_63 v0 v1 v2 v3 v5 v6 r_62 (v8 + 1)) else (if ixb v6 (ln (rf v0 16)) = true then (if ixb v7 (ln (rf v0 17)) = true then st (si x (rf v0 17) (ix v7) ((gi x (rf v0 16) (ix v6)) + v8)) (fun x_67 => bnd (ff_MO_more x_67 v7) (fun r_68 x_69 => ff_MO_tears_167 k_111 k_146 n x_69 v0 v1 v2 v3 v5 v6 r_68 (v8 + 1))) else none) else none)) else none) else none))) else none)) = some (r, x') := hf
    refine lv_iload hx hb dd_MO_tears_167 (lv_at hl 7 rfl) ?_
    refine lv_iconst (v := 4) hx hb dd_MO_tears_169 (by decide) ?_
    refine lv_icmp_ge (tgt := 242) hx hb dd_MO_tears_170 (by decide) (fun h_49 => ?_) (fun h_49 => ?_)
    · have hf := (if_pos h_49).symm.trans hf
      refine lv_iinc (v := v6 + 1) (lv' := [(6, .int (v6 + 1)), (0, .ref (ad v0)), (1, .int v1), (2, .int v2), (3, .int v3), (5, .int v5), (7, .int v7), (8, .int v8)]) hx hb dd_MO_tears_242 hl (k := 5) rfl rfl (by decide) rfl (fun ls hl => ?_)
      refine lv_goto (tgt := 146) hx hb dd_MO_tears_245 (by decide) ?_
      exact hk_146 x v0 v1 v2 v3 v5 (v6 + 1) ho_v0 hf _ _ _ hP hS (lv_sub hl [1, 2, 3, 4, 5, 0] rfl)
    · have hf := (if_neg h_49).symm.trans hf
      refine lv_aload_n hx hb dd_MO_tears_173 rfl (lv_at hl 0 rfl) ?_
      refine gf_MO_34 C0 hP ho_v0 dd_MO_tears_174 ?_
      refine lv_iload hx hb dd_MO_tears_177 (lv_at hl 5 rfl) ?_
      obtain ⟨h_50, hf⟩ := of_ifb hf
      refine raI C0 hP (tp_6_16 ho_v0) h_50 dd_MO_tears_179 ?_
      refine lv_sipush (v := 9999) hx hb dd_MO_tears_180 (by decide) ?_
      refine lv_icmp_ge (tgt := 229) hx hb dd_MO_tears_183 (by decide) (fun h_51 => ?_) (fun h_51 => ?_)
      · have hf := (if_pos h_51).symm.trans hf
        refine lv_iload hx hb dd_MO_tears_229 (lv_at hl 6 rfl) ?_
        obtain ⟨r_52, x_53, c_54, hf⟩ := of_bnd hf
        refine cl_MO_183 C0 hap  c_54 hP hS ⟨Nat.le_of_ble_eq_true rfl, Nat.le_of_ble_eq_true rfl⟩ hl.1 (Nat.le_of_ble_eq_true rfl) dd_MO_tears_231 ⟨Nat.le_refl _, Nat.le_refl _⟩ (fun H locs hP hS => ?_)
        refine lv_istore (lv' := [(7, .int r_52), (0, .ref (ad v0)), (1, .int v1), (2, .int v2), (3, .int v3), (5, .int v5), (6, .int v6), (8, .int v8)]) hx hb dd_MO_tears_234 hl (by decide) rfl (fun ls hl => ?_)
        refine lv_iinc (v := v8 + 1) (lv' := [(8, .int (v8 + 1)), (7, .int r_52), (0, .ref (ad v0)), (1, .int v1), (2, .int v2), (3, .int v3), (5, .int v5), (6, .int v6)]) hx hb dd_MO_tears_236 hl (k := 7) rfl rfl (by decide) rfl (fun ls hl => ?_)
        refine lv_goto (tgt := 167) hx hb dd_MO_tears_239 (by decide) ?_
        exact ih x_53 v0 v1 v2 v3 v5 v6 r_52 (v8 + 1) ho_v0 hf _ _ _ hP hS (lv_sub hl [2, 3, 4, 5, 6, 7, 1, 0] rfl)
      · have hf := (if_neg h_51).symm.trans hf
        refine lv_iload hx hb dd_MO_tears_186 (lv_at hl 6 rfl) ?_
        refine lv_iload_n hx hb dd_MO_tears_188 rfl (lv_at hl 2 rfl) ?_
        refine lv_icmp_lt (tgt := 229) hx hb dd_MO_tears_189 (by decide) (fun h_55 => ?_) (fun h_55 => ?_)
        · have hf := (if_pos h_55).symm.trans hf
          refine lv_iload hx hb dd_MO_tears_229 (lv_at hl 6 rfl) ?_
          obtain ⟨r_56, x_57, c_58, hf⟩ := of_bnd hf
          refine cl_MO_183 C0 hap  c_58 hP hS ⟨Nat.le_of_ble_eq_true rfl, Nat.le_of_ble_eq_true rfl⟩ hl.1 (Nat.le_of_ble_eq_true rfl) dd_MO_tears_231 ⟨Nat.le_refl _, Nat.le_refl _⟩ (fun H locs hP hS => ?_)
          refine lv_istore (lv' := [(7, .int r_56), (0, .ref (ad v0)), (1, .int v1), (2, .int v2), (3, .int v3), (5, .int v5), (6, .int v6), (8, .int v8)]) hx hb dd_MO_tears_234 hl (by decide) rfl (fun ls hl => ?_)
          refine lv_iinc (v := v8 + 1) (lv' := [(8, .int (v8 + 1)), (7, .int r_56), (0, .ref (ad v0)), (1, .int v1), (2, .int v2), (3, .int v3), (5, .int v5), (6, .int v6)]) hx hb dd_MO_tears_236 hl (k := 7) rfl rfl (by decide) rfl (fun ls hl => ?_)
          refine lv_goto (tgt := 167) hx hb dd_MO_tears_239 (by decide) ?_
          exact ih x_57 v0 v1 v2 v3 v5 v6 r_56 (v8 + 1) ho_v0 hf _ _ _ hP hS (lv_sub hl [2, 3, 4, 5, 6, 7, 1, 0] rfl)
        · have hf := (if_neg h_55).symm.trans hf
          refine lv_aload_n hx hb dd_MO_tears_192 rfl (lv_at hl 0 rfl) ?_
          refine gf_MO_34 C0 hP ho_v0 dd_MO_tears_193 ?_
          refine lv_iload hx hb dd_MO_tears_196 (lv_at hl 5 rfl) ?_
          obtain ⟨h_59, hf⟩ := of_ifb hf
          refine raI C0 hP (tp_6_16 ho_v0) h_59 dd_MO_tears_198 ?_
          refine lv_iload hx hb dd_MO_tears_199 (lv_at hl 7 rfl) ?_
          refine lv_iadd hx hb dd_MO_tears_201 ?_
          refine lv_aload_n hx hb dd_MO_tears_202 rfl (lv_at hl 0 rfl) ?_
          refine gf_MO_37 C0 hP ho_v0 dd_MO_tears_203 ?_
          refine lv_iload hx hb dd_MO_tears_206 (lv_at hl 6 rfl) ?_
          obtain ⟨h_60, hf⟩ := of_ifb hf
          refine raI C0 hP (tp_6_17 ho_v0) h_60 dd_MO_tears_208 ?_
          refine lv_icmp_ge (tgt := 229) hx hb dd_MO_tears_209 (by decide) (fun h_61 => ?_) (fun h_61 => ?_)
          · have hf := (if_pos h_61).symm.trans hf
            refine lv_iload hx hb dd_MO_tears_229 (lv_at hl 6 rfl) ?_
            obtain ⟨r_62, x_63, c_64, hf⟩ := of_bnd hf
            refine cl_MO_183 C0 hap  c_64 hP hS ⟨Nat.le_of_ble_eq_true rfl, Nat.le_of_ble_eq_true rfl⟩ hl.1 (Nat.le_of_ble_eq_true rfl) dd_MO_tears_231 ⟨Nat.le_refl _, Nat.le_refl _⟩ (fun H locs hP hS => ?_)
            refine lv_istore (lv' := [(7, .int r_62), (0, .ref (ad v0)), (1, .int v1), (2, .int v2), (3, .int v3), (5, .int v5), (6, .int v6), (8, .int v8)]) hx hb dd_MO_tears_234 hl (by decide) rfl (fun ls hl => ?_)
            refine lv_iinc (v := v8 + 1) (lv' := [(8, .int (v8 + 1)), (7, .int r_62), (0, .ref (ad v0)), (1, .int v1), (2, .int v2), (3, .int v3), (5, .int v5), (6, .int v6)]) hx hb dd_MO_tears_236 hl (k := 7) rfl rfl (by decide) rfl (fun ls hl => ?_)
            refine lv_goto (tgt := 167) hx hb dd_MO_tears_239 (by decide) ?_
            exact ih x_63 v0 v1 v2 v3 v5 v6 r_62 (v8 + 1) ho_v0 hf _ _ _ hP hS (lv_sub hl [2, 3, 4, 5, 6, 7, 1, 0] rfl)
          · have hf := (if_neg h_61).symm.trans hf
            refine lv_aload_n hx hb dd_MO_tears_212 rfl (lv_at hl 0 rfl) ?_
            refine gf_MO_37 C0 hP ho_v0 dd_MO_tears_213 ?_
            refine lv_iload hx hb dd_MO_tears_216 (lv_at hl 6 rfl) ?_
            refine lv_aload_n hx hb dd_MO_tears_218 rfl (lv_at hl 0 rfl) ?_
            refine gf_MO_34 C0 hP ho_v0 dd_MO_tears_219 ?_
            refine lv_iload hx hb dd_MO_tears_222 (lv_at hl 5 rfl) ?_
            obtain ⟨h_65, hf⟩ := of_ifb hf
            refine raI C0 hP (tp_6_16 ho_v0) h_65 dd_MO_tears_224 ?_
            refine lv_iload hx hb dd_MO_tears_225 (lv_at hl 7 rfl) ?_
            refine lv_iadd hx hb dd_MO_tears_227 ?_
            obtain ⟨h_66, hf⟩ := of_ifb hf
            obtain ⟨x_67, hx_67, hf⟩ := of_st hf
            refine sI C0 hap hP hS (tp_6_17 ho_v0) h_66 hx_67 dd_MO_tears_228 (fun H locs hP hS => ?_)
            refine lv_iload hx hb dd_MO_tears_229 (lv_at hl 6 rfl) ?_
            obtain ⟨r_68, x_69, c_70, hf⟩ := of_bnd hf
            refine cl_MO_183 C0 hap  c_70 hP hS ⟨Nat.le_of_ble_eq_true rfl, Nat.le_of_ble_eq_true rfl⟩ hl.1 (Nat.le_of_ble_eq_true rfl) dd_MO_tears_231 ⟨Nat.le_refl _, Nat.le_refl _⟩ (fun H locs hP hS => ?_)
            refine lv_istore (lv' := [(7, .int r_68), (0, .ref (ad v0)), (1, .int v1), (2, .int v2), (3, .int v3), (5, .int v5), (6, .int v6), (8, .int v8)]) hx hb dd_MO_tears_234 hl (by decide) rfl (fun ls hl => ?_)
            refine lv_iinc (v := v8 + 1) (lv' := [(8, .int (v8 + 1)), (7, .int r_68), (0, .ref (ad v0)), (1, .int v1), (2, .int v2), (3, .int v3), (5, .int v5), (6, .int v6)]) hx hb dd_MO_tears_236 hl (k := 7) rfl rfl (by decide) rfl (fun ls hl => ?_)
            refine lv_goto (tgt := 167) hx hb dd_MO_tears_239 (by decide) ?_
            exact ih x_69 v0 v1 v2 v3 v5 v6 r_68 (v8 + 1) ho_v0 hf _ _ _ hP hS (lv_sub hl [2, 3, 4, 5, 6, 7, 1, 0] rfl)
set_option maxHeartbeats 4000000 in
set_option maxRecDepth 100000 in
theorem ww_MO_tears_146 {p : Program} {l : Launch} {e : Env} {s : State} {m : MethodId} {args : Array Value} {below : List Frame} {meth : Method} {c : Code} {E : Ev} {A : Nat → Prop} {ad : Nat → Nat} {r : Int32} {x' : St} (C0 : Cx E A RMO bb_MO_tears 9 (some .int) p s m args meth c) (hap : Ap ad ixM A) {k_111 : St → Nat → Int32 → Int32 → Int32 → Int32 → Option (Int32 × St)} (hk_111 : ∀ (x : St) (v0 : Nat) (v1 : Int32) (v2 : Int32) (v3 : Int32) (v5 : Int32), (isO ixM v0 6) → k_111 x v0 v1 v2 v3 v5 = some (r, x') → ∀ (H : Heap) (locs : List Loc) (ls : Array Slot), Wd E ad ixM x H → va_S A s.heap H locs → lv_has ls 9 [(0, .ref (ad v0)), (1, .int v1), (2, .int v2), (3, .int v3), (5, .int v5)] → W p l e rm_MO_tears s m args below meth c H locs 0 0 (MQ below (QX E ad ixM A (some (.int r)) x') args s 0 0 A) (F0 m 111 ls [])) : ∀ (n : Nat), ∀ (x : St) (v0 : Nat) (v1 : Int32) (v2 : Int32) (v3 : Int32) (v5 : Int32) (v6 : Int32), (isO ixM v0 6) → ff_MO_tears_146 k_111 n x v0 v1 v2 v3 v5 v6 = some (r, x') → ∀ (H : Heap) (locs : List Loc) (ls : Array Slot), Wd E ad ixM x H → va_S A s.heap H locs → lv_has ls 9 [(0, .ref (ad v0)), (1, .int v1), (2, .int v2), (3, .int v3), (5, .int v5), (6, .int v6)] → W p l e rm_MO_tears s m args below meth c H locs 0 0 (MQ below (QX E ad ixM A (some (.int r)) x') args s 0 0 A) (F0 m 146 ls []) := by
  obtain ⟨hx, hb, hml, hr, hown, hts, hlk, hK⟩ := id C0
  intro n
  induction n with
  | zero => intro x v0 v1 v2 v3 v5 v6 ho_v0 hf; exact of_no hf
  | succ n ih =>
    intro x v0 v1 v2 v3 v5 v6 ho_v0 hf H locs ls hP hS hl
    have hf : (if 99 < v6 then ff_MO_tears_251 k_111 FU x v0 v1 v2 v3 v5 0 else bnd (ff_MO_onDay x v0 v1 v6 v5) (fun r_46 x_47 => ff_MO_tears_167 k_111 (ff_MO_tears_146 k_111 n) FU x_47 v0 v1 v2 v3 v5 v6 r_46 0)) = some (r, x') := hf
    refine lv_iload hx hb dd_MO_tears_146 (lv_at hl 5 rfl) ?_
    refine lv_bipush (v := 99) hx hb dd_MO_tears_148 (by decide) ?_
    refine lv_icmp_gt (tgt := 248) hx hb dd_MO_tears_150 (by decide) (fun h_41 => ?_) (fun h_41 => ?_)
    · have hf := (if_pos h_41).symm.trans hf
      refine lv_iconst (v := 0) hx hb dd_MO_tears_248 (by decide) ?_
      refine lv_istore (lv' := [(6, .int 0), (0, .ref (ad v0)), (1, .int v1), (2, .int v2), (3, .int v3), (5, .int v5)]) hx hb dd_MO_tears_249 hl (by decide) rfl (fun ls hl => ?_)
      exact ww_MO_tears_251 C0 hap hk_111 FU x v0 v1 v2 v3 v5 0 ho_v0 hf _ _ _ hP hS (lv_sub hl [1, 2, 3, 4, 5, 0] rfl)
    · have hf := (if_neg h_41).symm.trans hf
      refine lv_aload_n hx hb dd_MO_tears_153 rfl (lv_at hl 0 rfl) ?_
      refine lv_iload_n hx hb dd_MO_tears_154 rfl (lv_at hl 1 rfl) ?_
      refine lv_iload hx hb dd_MO_tears_155 (lv_at hl 5 rfl) ?_
      refine lv_iload hx hb dd_MO_tears_157 (lv_at hl 4 rfl) ?_
      obtain ⟨r_46, x_47, c_48, hf⟩ := of_bnd hf
      refine cl_MO_186 C0 hap ho_v0 c_48 hP hS ⟨Nat.le_of_ble_eq_true rfl, Nat.le_of_ble_eq_true rfl⟩ hl.1 (Nat.le_of_ble_eq_true rfl) dd_MO_tears_159 ⟨Nat.le_refl _, Nat.le_refl _⟩ (fun H locs hP hS => ?_)
      refine lv_istore (lv' := [(7, .int r_46), (0, .ref (ad v0)), (1, .int v1), (2, .int v2), (3, .int v3), (5, .int v5), (6, .int v6)]) hx hb dd_MO_tears_162 hl (by decide) rfl (fun ls hl => ?_)
      refine lv_iconst (v := 0) hx hb dd_MO_tears_164 (by decide) ?_
      refine lv_istore (lv' := [(8, .int 0), (7, .int r_46), (0, .ref (ad v0)), (1, .int v1), (2, .int v2), (3, .int v3), (5, .int v5), (6, .int v6)]) hx hb dd_MO_tears_165 hl (by decide) rfl (fun ls hl => ?_)
      exact ww_MO_tears_167 C0 hap hk_111 ih FU x_47 v0 v1 v2 v3 v5 v6 r_46 0 ho_v0 hf _ _ _ hP hS (lv_sub hl [2, 3, 4, 5, 6, 7, 1, 0] rfl)
set_option maxHeartbeats 4000000 in
set_option maxRecDepth 100000 in
theorem ww_MO_tears_120 {p : Program} {l : Launch} {e : Env} {s : State} {m : MethodId} {args : Array Value} {below : List Frame} {meth : Method} {c : Code} {E : Ev} {A : Nat → Prop} {ad : Nat → Nat} {r : Int32} {x' : St} (C0 : Cx E A RMO bb_MO_tears 9 (some .int) p s m args meth c) (hap : Ap ad ixM A) {k_111 : St → Nat → Int32 → Int32 → Int32 → Int32 → Option (Int32 × St)} (hk_111 : ∀ (x : St) (v0 : Nat) (v1 : Int32) (v2 : Int32) (v3 : Int32) (v5 : Int32), (isO ixM v0 6) → k_111 x v0 v1 v2 v3 v5 = some (r, x') → ∀ (H : Heap) (locs : List Loc) (ls : Array Slot), Wd E ad ixM x H → va_S A s.heap H locs → lv_has ls 9 [(0, .ref (ad v0)), (1, .int v1), (2, .int v2), (3, .int v3), (5, .int v5)] → W p l e rm_MO_tears s m args below meth c H locs 0 0 (MQ below (QX E ad ixM A (some (.int r)) x') args s 0 0 A) (F0 m 111 ls [])) : ∀ (n : Nat), ∀ (x : St) (v0 : Nat) (v1 : Int32) (v2 : Int32) (v3 : Int32) (v5 : Int32) (v6 : Int32), (isO ixM v0 6) → ff_MO_tears_120 k_111 n x v0 v1 v2 v3 v5 v6 = some (r, x') → ∀ (H : Heap) (locs : List Loc) (ls : Array Slot), Wd E ad ixM x H → va_S A s.heap H locs → lv_has ls 9 [(0, .ref (ad v0)), (1, .int v1), (2, .int v2), (3, .int v3), (5, .int v5), (6, .int v6)] → W p l e rm_MO_tears s m args below meth c H locs 0 0 (MQ below (QX E ad ixM A (some (.int r)) x') args s 0 0 A) (F0 m 120 ls []) := by
  obtain ⟨hx, hb, hml, hr, hown, hts, hlk, hK⟩ := id C0
  intro n
  induction n with
  | zero => intro x v0 v1 v2 v3 v5 v6 ho_v0 hf; exact of_no hf
  | succ n ih =>
    intro x v0 v1 v2 v3 v5 v6 ho_v0 hf H locs ls hP hS hl
    have hf : (if 99 < v6 then ff_MO_tears_146 k_111 FU x v0 v1 v2 v3 v5 0 else (if ixb v6 (ln (rf v0 17)) = true then st (si x (rf v0 17) (ix v6) 9999) (fun x_72 => ff_MO_tears_120 k_111 n x_72 v0 v1 v2 v3 v5 (v6 + 1)) else none)) = some (r, x') := hf
    refine lv_iload hx hb dd_MO_tears_120 (lv_at hl 5 rfl) ?_
    refine lv_bipush (v := 99) hx hb dd_MO_tears_122 (by decide) ?_
    refine lv_icmp_gt (tgt := 143) hx hb dd_MO_tears_124 (by decide) (fun h_40 => ?_) (fun h_40 => ?_)
    · have hf := (if_pos h_40).symm.trans hf
      refine lv_iconst (v := 0) hx hb dd_MO_tears_143 (by decide) ?_
      refine lv_istore (lv' := [(6, .int 0), (0, .ref (ad v0)), (1, .int v1), (2, .int v2), (3, .int v3), (5, .int v5)]) hx hb dd_MO_tears_144 hl (by decide) rfl (fun ls hl => ?_)
      exact ww_MO_tears_146 C0 hap hk_111 FU x v0 v1 v2 v3 v5 0 ho_v0 hf _ _ _ hP hS (lv_sub hl [1, 2, 3, 4, 5, 0] rfl)
    · have hf := (if_neg h_40).symm.trans hf
      refine lv_aload_n hx hb dd_MO_tears_127 rfl (lv_at hl 0 rfl) ?_
      refine gf_MO_37 C0 hP ho_v0 dd_MO_tears_128 ?_
      refine lv_iload hx hb dd_MO_tears_131 (lv_at hl 5 rfl) ?_
      refine lv_sipush (v := 9999) hx hb dd_MO_tears_133 (by decide) ?_
      obtain ⟨h_71, hf⟩ := of_ifb hf
      obtain ⟨x_72, hx_72, hf⟩ := of_st hf
      refine sI C0 hap hP hS (tp_6_17 ho_v0) h_71 hx_72 dd_MO_tears_136 (fun H locs hP hS => ?_)
      refine lv_iinc (v := v6 + 1) (lv' := [(6, .int (v6 + 1)), (0, .ref (ad v0)), (1, .int v1), (2, .int v2), (3, .int v3), (5, .int v5)]) hx hb dd_MO_tears_137 hl (k := 5) rfl rfl (by decide) rfl (fun ls hl => ?_)
      refine lv_goto (tgt := 120) hx hb dd_MO_tears_140 (by decide) ?_
      exact ih x_72 v0 v1 v2 v3 v5 (v6 + 1) ho_v0 hf _ _ _ hP hS (lv_sub hl [1, 2, 3, 4, 5, 0] rfl)
set_option maxHeartbeats 4000000 in
set_option maxRecDepth 100000 in
theorem ww_MO_tears_111 {p : Program} {l : Launch} {e : Env} {s : State} {m : MethodId} {args : Array Value} {below : List Frame} {meth : Method} {c : Code} {E : Ev} {A : Nat → Prop} {ad : Nat → Nat} {r : Int32} {x' : St} (C0 : Cx E A RMO bb_MO_tears 9 (some .int) p s m args meth c) (hap : Ap ad ixM A)  : ∀ (n : Nat), ∀ (x : St) (v0 : Nat) (v1 : Int32) (v2 : Int32) (v3 : Int32) (v5 : Int32), (isO ixM v0 6) → ff_MO_tears_111 n x v0 v1 v2 v3 v5 = some (r, x') → ∀ (H : Heap) (locs : List Loc) (ls : Array Slot), Wd E ad ixM x H → va_S A s.heap H locs → lv_has ls 9 [(0, .ref (ad v0)), (1, .int v1), (2, .int v2), (3, .int v3), (5, .int v5)] → W p l e rm_MO_tears s m args below meth c H locs 0 0 (MQ below (QX E ad ixM A (some (.int r)) x') args s 0 0 A) (F0 m 111 ls []) := by
  obtain ⟨hx, hb, hml, hr, hown, hts, hlk, hK⟩ := id C0
  intro n
  induction n with
  | zero => intro x v0 v1 v2 v3 v5 ho_v0 hf; exact of_no hf
  | succ n ih =>
    intro x v0 v1 v2 v3 v5 ho_v0 hf H locs ls hP hS hl
    have hf : (if v3 < v5 then ff_MO_tears_284 x v0 else ff_MO_tears_120 (ff_MO_tears_111 n) FU x v0 v1 v2 v3 v5 0) = some (r, x') := hf
    refine lv_iload hx hb dd_MO_tears_111 (lv_at hl 4 rfl) ?_
    refine lv_iload_n hx hb dd_MO_tears_113 rfl (lv_at hl 3 rfl) ?_
    refine lv_icmp_gt (tgt := 284) hx hb dd_MO_tears_114 (by decide) (fun h_34 => ?_) (fun h_34 => ?_)
    · have hf := (if_pos h_34).symm.trans hf
      exact ww_MO_tears_284 C0 hap  ho_v0 hf hP hS (lv_sub hl [0] rfl)
    · have hf := (if_neg h_34).symm.trans hf
      refine lv_iconst (v := 0) hx hb dd_MO_tears_117 (by decide) ?_
      refine lv_istore (lv' := [(6, .int 0), (0, .ref (ad v0)), (1, .int v1), (2, .int v2), (3, .int v3), (5, .int v5)]) hx hb dd_MO_tears_118 hl (by decide) rfl (fun ls hl => ?_)
      exact ww_MO_tears_120 C0 hap ih FU x v0 v1 v2 v3 v5 0 ho_v0 hf _ _ _ hP hS (lv_sub hl [1, 2, 3, 4, 5, 0] rfl)
set_option maxHeartbeats 4000000 in
set_option maxRecDepth 100000 in
theorem ww_MO_tears_102 {p : Program} {l : Launch} {e : Env} {s : State} {m : MethodId} {args : Array Value} {below : List Frame} {meth : Method} {c : Code} {E : Ev} {A : Nat → Prop} {ad : Nat → Nat} {r : Int32} {x' : St} (C0 : Cx E A RMO bb_MO_tears 9 (some .int) p s m args meth c) (hap : Ap ad ixM A)  {x : St} {v0 : Nat} {v1 : Int32} {v2 : Int32} {v3 : Int32} (ho_v0 : isO ixM v0 6) (hf : ff_MO_tears_102 x v0 v1 v2 v3 = some (r, x')) {H : Heap} {locs : List Loc} {ls : Array Slot} (hP : Wd E ad ixM x H) (hS : va_S A s.heap H locs) (hl : lv_has ls 9 [(0, .ref (ad v0)), (1, .int v1), (2, .int v2), (3, .int v3)]) : W p l e rm_MO_tears s m args below meth c H locs 0 0 (MQ below (QX E ad ixM A (some (.int r)) x') args s 0 0 A) (F0 m 102 ls []) := by
  obtain ⟨hx, hb, hml, hr, hown, hts, hlk, hK⟩ := id C0
  have hf : bnd (ff_MO_get x v0 5) (fun r_31 x_32 => ff_MO_tears_111 FU x_32 v0 v1 v2 v3 (r_31 + 1)) = some (r, x') := hf
  refine lv_aload_n hx hb dd_MO_tears_102 rfl (lv_at hl 0 rfl) ?_
  refine lv_iconst (v := 5) hx hb dd_MO_tears_103 (by decide) ?_
  obtain ⟨r_31, x_32, c_33, hf⟩ := of_bnd hf
  refine cl_MO_60 C0 hap ho_v0 c_33 hP hS ⟨Nat.le_of_ble_eq_true rfl, Nat.le_of_ble_eq_true rfl⟩ hl.1 (Nat.le_of_ble_eq_true rfl) dd_MO_tears_104 ⟨Nat.le_refl _, Nat.le_refl _⟩ (fun H locs hP hS => ?_)
  refine lv_iconst (v := 1) hx hb dd_MO_tears_107 (by decide) ?_
  refine lv_iadd hx hb dd_MO_tears_108 ?_
  refine lv_istore (lv' := [(5, .int (r_31 + 1)), (0, .ref (ad v0)), (1, .int v1), (2, .int v2), (3, .int v3)]) hx hb dd_MO_tears_109 hl (by decide) rfl (fun ls hl => ?_)
  exact ww_MO_tears_111 C0 hap  FU x_32 v0 v1 v2 v3 (r_31 + 1) ho_v0 hf _ _ _ hP hS (lv_sub hl [1, 2, 3, 4, 0] rfl)
set_option maxHeartbeats 4000000 in
set_option maxRecDepth 100000 in
theorem ww_MO_tears_62 {p : Program} {l : Launch} {e : Env} {s : State} {m : MethodId} {args : Array Value} {below : List Frame} {meth : Method} {c : Code} {E : Ev} {A : Nat → Prop} {ad : Nat → Nat} {r : Int32} {x' : St} (C0 : Cx E A RMO bb_MO_tears 9 (some .int) p s m args meth c) (hap : Ap ad ixM A)  : ∀ (n : Nat), ∀ (x : St) (v0 : Nat) (v1 : Int32) (v2 : Int32) (v3 : Int32) (v4 : Int32) (v5 : Int32), (isO ixM v0 6) → ff_MO_tears_62 n x v0 v1 v2 v3 v4 v5 = some (r, x') → ∀ (H : Heap) (locs : List Loc) (ls : Array Slot), Wd E ad ixM x H → va_S A s.heap H locs → lv_has ls 9 [(0, .ref (ad v0)), (1, .int v1), (2, .int v2), (3, .int v3), (4, .int v4), (5, .int v5)] → W p l e rm_MO_tears s m args below meth c H locs 0 0 (MQ below (QX E ad ixM A (some (.int r)) x') args s 0 0 A) (F0 m 62 ls []) := by
  obtain ⟨hx, hb, hml, hr, hown, hts, hlk, hK⟩ := id C0
  intro n
  induction n with
  | zero => intro x v0 v1 v2 v3 v4 v5 ho_v0 hf; exact of_no hf
  | succ n ih =>
    intro x v0 v1 v2 v3 v4 v5 ho_v0 hf H locs ls hP hS hl
    have hf : (if 99 < v5 then ff_MO_tears_102 x v0 v1 v2 v3 else (if v5 = v4 then (if v5 < v2 then (if ixb v5 (ln (rf v0 16)) = true then st (si x (rf v0 16) (ix v5) 9999) (fun x_78 => ff_MO_tears_62 n x_78 v0 v1 v2 v3 v4 (v5 + 1)) else none) else (if ixb v5 (ln (rf v0 16)) = true then st (si x (rf v0 16) (ix v5) 0) (fun x_80 => ff_MO_tears_62 n x_80 v0 v1 v2 v3 v4 (v5 + 1)) else none)) else (if ixb v5 (ln (rf v0 16)) = true then st (si x (rf v0 16) (ix v5) 9999) (fun x_75 => ff_MO_tears_62 n x_75 v0 v1 v2 v3 v4 (v5 + 1)) else none))) = some (r, x') := hf
    refine lv_iload hx hb dd_MO_tears_62 (lv_at hl 5 rfl) ?_
    refine lv_bipush (v := 99) hx hb dd_MO_tears_64 (by decide) ?_
    refine lv_icmp_gt (tgt := 102) hx hb dd_MO_tears_66 (by decide) (fun h_30 => ?_) (fun h_30 => ?_)
    · have hf := (if_pos h_30).symm.trans hf
      exact ww_MO_tears_102 C0 hap  ho_v0 hf hP hS (lv_sub hl [0, 1, 2, 3] rfl)
    · have hf := (if_neg h_30).symm.trans hf
      refine lv_aload_n hx hb dd_MO_tears_69 rfl (lv_at hl 0 rfl) ?_
      refine gf_MO_34 C0 hP ho_v0 dd_MO_tears_70 ?_
      refine lv_iload hx hb dd_MO_tears_73 (lv_at hl 5 rfl) ?_
      refine lv_iload hx hb dd_MO_tears_75 (lv_at hl 5 rfl) ?_
      refine lv_iload hx hb dd_MO_tears_77 (lv_at hl 4 rfl) ?_
      refine lv_icmp_ne (tgt := 92) hx hb dd_MO_tears_79 (by decide) (fun h_73 => ?_) (fun h_73 => ?_)
      · have hf := (if_neg h_73).symm.trans hf
        refine lv_sipush (v := 9999) hx hb dd_MO_tears_92 (by decide) ?_
        obtain ⟨h_74, hf⟩ := of_ifb hf
        obtain ⟨x_75, hx_75, hf⟩ := of_st hf
        refine sI C0 hap hP hS (tp_6_16 ho_v0) h_74 hx_75 dd_MO_tears_95 (fun H locs hP hS => ?_)
        refine lv_iinc (v := v5 + 1) (lv' := [(5, .int (v5 + 1)), (0, .ref (ad v0)), (1, .int v1), (2, .int v2), (3, .int v3), (4, .int v4)]) hx hb dd_MO_tears_96 hl (k := 5) rfl rfl (by decide) rfl (fun ls hl => ?_)
        refine lv_goto (tgt := 62) hx hb dd_MO_tears_99 (by decide) ?_
        exact ih x_75 v0 v1 v2 v3 v4 (v5 + 1) ho_v0 hf _ _ _ hP hS (lv_sub hl [1, 2, 3, 4, 5, 0] rfl)
      · have hf := (if_pos h_73).symm.trans hf
        refine lv_iload hx hb dd_MO_tears_82 (lv_at hl 5 rfl) ?_
        refine lv_iload_n hx hb dd_MO_tears_84 rfl (lv_at hl 2 rfl) ?_
        refine lv_icmp_lt (tgt := 92) hx hb dd_MO_tears_85 (by decide) (fun h_76 => ?_) (fun h_76 => ?_)
        · have hf := (if_pos h_76).symm.trans hf
          refine lv_sipush (v := 9999) hx hb dd_MO_tears_92 (by decide) ?_
          obtain ⟨h_77, hf⟩ := of_ifb hf
          obtain ⟨x_78, hx_78, hf⟩ := of_st hf
          refine sI C0 hap hP hS (tp_6_16 ho_v0) h_77 hx_78 dd_MO_tears_95 (fun H locs hP hS => ?_)
          refine lv_iinc (v := v5 + 1) (lv' := [(5, .int (v5 + 1)), (0, .ref (ad v0)), (1, .int v1), (2, .int v2), (3, .int v3), (4, .int v4)]) hx hb dd_MO_tears_96 hl (k := 5) rfl rfl (by decide) rfl (fun ls hl => ?_)
          refine lv_goto (tgt := 62) hx hb dd_MO_tears_99 (by decide) ?_
          exact ih x_78 v0 v1 v2 v3 v4 (v5 + 1) ho_v0 hf _ _ _ hP hS (lv_sub hl [1, 2, 3, 4, 5, 0] rfl)
        · have hf := (if_neg h_76).symm.trans hf
          refine lv_iconst (v := 0) hx hb dd_MO_tears_88 (by decide) ?_
          refine lv_goto (tgt := 95) hx hb dd_MO_tears_89 (by decide) ?_
          obtain ⟨h_79, hf⟩ := of_ifb hf
          obtain ⟨x_80, hx_80, hf⟩ := of_st hf
          refine sI C0 hap hP hS (tp_6_16 ho_v0) h_79 hx_80 dd_MO_tears_95 (fun H locs hP hS => ?_)
          refine lv_iinc (v := v5 + 1) (lv' := [(5, .int (v5 + 1)), (0, .ref (ad v0)), (1, .int v1), (2, .int v2), (3, .int v3), (4, .int v4)]) hx hb dd_MO_tears_96 hl (k := 5) rfl rfl (by decide) rfl (fun ls hl => ?_)
          refine lv_goto (tgt := 62) hx hb dd_MO_tears_99 (by decide) ?_
          exact ih x_80 v0 v1 v2 v3 v4 (v5 + 1) ho_v0 hf _ _ _ hP hS (lv_sub hl [1, 2, 3, 4, 5, 0] rfl)
set_option maxHeartbeats 4000000 in
set_option maxRecDepth 100000 in
theorem ww_MO_tears {p : Program} {l : Launch} {e : Env} {s : State} {m : MethodId} {args : Array Value} {below : List Frame} {meth : Method} {c : Code} {E : Ev} {A : Nat → Prop} {ad : Nat → Nat} {r : Int32} {x' : St} (C0 : Cx E A RMO bb_MO_tears 9 (some .int) p s m args meth c) (hap : Ap ad ixM A)  {x : St} {v0 : Nat} {v1 : Int32} {v2 : Int32} {v3 : Int32} (ho_v0 : isO ixM v0 6) (hf : ff_MO_tears x v0 v1 v2 v3 = some (r, x')) {H : Heap} {locs : List Loc} {ls : Array Slot} (hP : Wd E ad ixM x H) (hS : va_S A s.heap H locs) (hl : lv_has ls 9 [(0, .ref (ad v0)), (1, .int v1), (2, .int v2), (3, .int v3)]) : W p l e rm_MO_tears s m args below meth c H locs 0 0 (MQ below (QX E ad ixM A (some (.int r)) x') args s 0 0 A) (F0 m 0 ls []) := by
  obtain ⟨hx, hb, hml, hr, hown, hts, hlk, hK⟩ := id C0
  have hf : bnd (ff_MO_isMourner x v0 v1) (fun r_1 x_2 => (if r_1 = 0 then bnd (ff_MO_bad x_2 v0) (fun r_5 x_6 => some (r_5, x_6)) else bnd (ff_MO_in x_2 v2 0 99) (fun r_8 x_9 => (if r_8 = 0 then bnd (ff_MO_bad x_9 v0) (fun r_12 x_13 => some (r_12, x_13)) else bnd (ff_MO_get x_9 v0 5) (fun r_15 x_16 => bnd (ff_MO_in x_16 v3 r_15 99) (fun r_18 x_19 => (if r_18 = 0 then bnd (ff_MO_bad x_19 v0) (fun r_81 x_82 => some (r_81, x_82)) else bnd (ff_MO_findGriefs x_19 v0 (-1)) (fun _ x_23 => bnd (ff_MO_get x_23 v0 5) (fun r_25 x_26 => (if ixb ((100 * v1) + r_25) (ln (rf v0 14)) = true then li (gi x_26 (rf v0 14) (ix ((100 * v1) + r_25))) (fun u_29 => ff_MO_tears_62 FU x_26 v0 v1 v2 v3 u_29 0) else none)))))))))) = some (r, x') := hf
  refine lv_aload_n hx hb dd_MO_tears_0 rfl (lv_at hl 0 rfl) ?_
  refine lv_iload_n hx hb dd_MO_tears_1 rfl (lv_at hl 1 rfl) ?_
  obtain ⟨r_1, x_2, c_3, hf⟩ := of_bnd hf
  refine cl_MO_94 C0 hap ho_v0 c_3 hP hS ⟨Nat.le_of_ble_eq_true rfl, Nat.le_of_ble_eq_true rfl⟩ hl.1 (Nat.le_of_ble_eq_true rfl) dd_MO_tears_2 ⟨Nat.le_refl _, Nat.le_refl _⟩ (fun H locs hP hS => ?_)
  refine lv_if_eq (tgt := 32) hx hb dd_MO_tears_5 (by decide) (fun h_4 => ?_) (fun h_4 => ?_)
  · have hf := (if_pos h_4).symm.trans hf
    refine lv_aload_n hx hb dd_MO_tears_32 rfl (lv_at hl 0 rfl) ?_
    obtain ⟨r_5, x_6, c_7, hf⟩ := of_bnd hf
    refine cl_MO_72 C0 hap ho_v0 c_7 hP hS ⟨Nat.le_of_ble_eq_true rfl, Nat.le_of_ble_eq_true rfl⟩ hl.1 (Nat.le_of_ble_eq_true rfl) dd_MO_tears_33 ⟨Nat.le_refl _, Nat.le_refl _⟩ (fun H locs hP hS => ?_)
    exact rrI C0 hP hS dd_MO_tears_36 hf
  · have hf := (if_neg h_4).symm.trans hf
    refine lv_iload_n hx hb dd_MO_tears_8 rfl (lv_at hl 2 rfl) ?_
    refine lv_iconst (v := 0) hx hb dd_MO_tears_9 (by decide) ?_
    refine lv_bipush (v := 99) hx hb dd_MO_tears_10 (by decide) ?_
    obtain ⟨r_8, x_9, c_10, hf⟩ := of_bnd hf
    refine cl_MO_64 C0 hap  c_10 hP hS ⟨Nat.le_of_ble_eq_true rfl, Nat.le_of_ble_eq_true rfl⟩ hl.1 (Nat.le_of_ble_eq_true rfl) dd_MO_tears_12 ⟨Nat.le_refl _, Nat.le_refl _⟩ (fun H locs hP hS => ?_)
    refine lv_if_eq (tgt := 32) hx hb dd_MO_tears_15 (by decide) (fun h_11 => ?_) (fun h_11 => ?_)
    · have hf := (if_pos h_11).symm.trans hf
      refine lv_aload_n hx hb dd_MO_tears_32 rfl (lv_at hl 0 rfl) ?_
      obtain ⟨r_12, x_13, c_14, hf⟩ := of_bnd hf
      refine cl_MO_72 C0 hap ho_v0 c_14 hP hS ⟨Nat.le_of_ble_eq_true rfl, Nat.le_of_ble_eq_true rfl⟩ hl.1 (Nat.le_of_ble_eq_true rfl) dd_MO_tears_33 ⟨Nat.le_refl _, Nat.le_refl _⟩ (fun H locs hP hS => ?_)
      exact rrI C0 hP hS dd_MO_tears_36 hf
    · have hf := (if_neg h_11).symm.trans hf
      refine lv_iload_n hx hb dd_MO_tears_18 rfl (lv_at hl 3 rfl) ?_
      refine lv_aload_n hx hb dd_MO_tears_19 rfl (lv_at hl 0 rfl) ?_
      refine lv_iconst (v := 5) hx hb dd_MO_tears_20 (by decide) ?_
      obtain ⟨r_15, x_16, c_17, hf⟩ := of_bnd hf
      refine cl_MO_60 C0 hap ho_v0 c_17 hP hS ⟨Nat.le_of_ble_eq_true rfl, Nat.le_of_ble_eq_true rfl⟩ hl.1 (Nat.le_of_ble_eq_true rfl) dd_MO_tears_21 ⟨Nat.le_refl _, Nat.le_refl _⟩ (fun H locs hP hS => ?_)
      refine lv_bipush (v := 99) hx hb dd_MO_tears_24 (by decide) ?_
      obtain ⟨r_18, x_19, c_20, hf⟩ := of_bnd hf
      refine cl_MO_64 C0 hap  c_20 hP hS ⟨Nat.le_of_ble_eq_true rfl, Nat.le_of_ble_eq_true rfl⟩ hl.1 (Nat.le_of_ble_eq_true rfl) dd_MO_tears_26 ⟨Nat.le_refl _, Nat.le_refl _⟩ (fun H locs hP hS => ?_)
      refine lv_if_ne (tgt := 37) hx hb dd_MO_tears_29 (by decide) (fun h_21 => ?_) (fun h_21 => ?_)
      · have hf := (if_neg h_21).symm.trans hf
        refine lv_aload_n hx hb dd_MO_tears_37 rfl (lv_at hl 0 rfl) ?_
        refine lv_iconst (v := -1) hx hb dd_MO_tears_38 (by decide) ?_
        obtain ⟨_, x_23, c_24, hf⟩ := of_bnd hf
        refine cl_MO_189 C0 hap ho_v0 c_24 hP hS ⟨Nat.le_of_ble_eq_true rfl, Nat.le_of_ble_eq_true rfl⟩ hl.1 (Nat.le_of_ble_eq_true rfl) dd_MO_tears_39 ⟨Nat.le_refl _, Nat.le_refl _⟩ (fun H locs hP hS => ?_)
        refine lv_aload_n hx hb dd_MO_tears_42 rfl (lv_at hl 0 rfl) ?_
        refine gf_MO_28 C0 hP ho_v0 dd_MO_tears_43 ?_
        refine lv_bipush (v := 100) hx hb dd_MO_tears_46 (by decide) ?_
        refine lv_iload_n hx hb dd_MO_tears_48 rfl (lv_at hl 1 rfl) ?_
        refine lv_imul hx hb dd_MO_tears_49 ?_
        refine lv_aload_n hx hb dd_MO_tears_50 rfl (lv_at hl 0 rfl) ?_
        refine lv_iconst (v := 5) hx hb dd_MO_tears_51 (by decide) ?_
        obtain ⟨r_25, x_26, c_27, hf⟩ := of_bnd hf
        refine cl_MO_60 C0 hap ho_v0 c_27 hP hS ⟨Nat.le_of_ble_eq_true rfl, Nat.le_of_ble_eq_true rfl⟩ hl.1 (Nat.le_of_ble_eq_true rfl) dd_MO_tears_52 ⟨Nat.le_refl _, Nat.le_refl _⟩ (fun H locs hP hS => ?_)
        refine lv_iadd hx hb dd_MO_tears_55 ?_
        obtain ⟨h_28, hf⟩ := of_ifb hf
        refine raI C0 hP (tp_6_14 ho_v0) h_28 dd_MO_tears_56 ?_
        obtain ⟨u_29, eu_29, hf⟩ := of_li hf
        refine tpi eu_29 ?_
        refine lv_istore (lv' := [(4, .int u_29), (0, .ref (ad v0)), (1, .int v1), (2, .int v2), (3, .int v3)]) hx hb dd_MO_tears_57 hl (by decide) rfl (fun ls hl => ?_)
        refine lv_iconst (v := 0) hx hb dd_MO_tears_59 (by decide) ?_
        refine lv_istore (lv' := [(5, .int 0), (4, .int u_29), (0, .ref (ad v0)), (1, .int v1), (2, .int v2), (3, .int v3)]) hx hb dd_MO_tears_60 hl (by decide) rfl (fun ls hl => ?_)
        exact ww_MO_tears_62 C0 hap  FU x_26 v0 v1 v2 v3 u_29 0 ho_v0 hf _ _ _ hP hS (lv_sub hl [2, 3, 4, 5, 1, 0] rfl)
      · have hf := (if_pos h_21).symm.trans hf
        refine lv_aload_n hx hb dd_MO_tears_32 rfl (lv_at hl 0 rfl) ?_
        obtain ⟨r_81, x_82, c_83, hf⟩ := of_bnd hf
        refine cl_MO_72 C0 hap ho_v0 c_83 hP hS ⟨Nat.le_of_ble_eq_true rfl, Nat.le_of_ble_eq_true rfl⟩ hl.1 (Nat.le_of_ble_eq_true rfl) dd_MO_tears_33 ⟨Nat.le_refl _, Nat.le_refl _⟩ (fun H locs hP hS => ?_)
        exact rrI C0 hP hS dd_MO_tears_36 hf
theorem cc_MO_tears {l : Launch} {E : Ev} {A : Nat → Prop} {ad : Nat → Nat} (hap : Ap ad ixM A) {x x' : St} {v0 : Nat} {v1 : Int32} {v2 : Int32} {v3 : Int32} {r : Int32} (ho_v0 : isO ixM v0 6) (hf : ff_MO_tears x v0 v1 v2 v3 = some (r, x')) : Met l yy_MO_tears (Cond.code yy_MO_tears bb_MO_tears 9 (some .int) :: gtb) rm_MO_tears (va_Pc [.ref (ad v0), .int v1, .int v2, .int v3] (PB E A ad ixM x)) (QX E ad ixM A (some (.int r)) x') 0 0 A := by
  exact enter (by decide) (Nat.le_of_ble_eq_true rfl) (fun p e s m below meth c ls C0 hP hS hl => ww_MO_tears C0 hap ho_v0 hf hP hS hl)
abbrev rm_MO_fact : Room := { frames := 1, cells := 0, slots := 0, locals := 22 }
theorem dd_MO_fact_0 : decode bb_MO_fact 0 = .ok (.iload_n 1, 1) := by decide +kernel
theorem dd_MO_fact_1 : decode bb_MO_fact 1 = .ok (.iconst 0, 1) := by decide +kernel
theorem dd_MO_fact_2 : decode bb_MO_fact 2 = .ok (.bipush 99, 2) := by decide +kernel
theorem dd_MO_fact_4 : decode bb_MO_fact 4 = .ok (.invokestatic 64, 3) := by decide +kernel
theorem dd_MO_fact_7 : decode bb_MO_fact 7 = .ok (.ifCond .eq 23, 3) := by decide +kernel
theorem dd_MO_fact_10 : decode bb_MO_fact 10 = .ok (.iload_n 2, 1) := by decide +kernel
theorem dd_MO_fact_11 : decode bb_MO_fact 11 = .ok (.iconst 0, 1) := by decide +kernel
theorem dd_MO_fact_12 : decode bb_MO_fact 12 = .ok (.bipush 99, 2) := by decide +kernel
theorem dd_MO_fact_14 : decode bb_MO_fact 14 = .ok (.invokestatic 64, 3) := by decide +kernel
theorem dd_MO_fact_17 : decode bb_MO_fact 17 = .ok (.ifCond .eq 13, 3) := by decide +kernel
theorem dd_MO_fact_20 : decode bb_MO_fact 20 = .ok (.iload_n 3, 1) := by decide +kernel
theorem dd_MO_fact_21 : decode bb_MO_fact 21 = .ok (.iload_n 2, 1) := by decide +kernel
theorem dd_MO_fact_22 : decode bb_MO_fact 22 = .ok (.bipush 100, 2) := by decide +kernel
theorem dd_MO_fact_24 : decode bb_MO_fact 24 = .ok (.invokestatic 64, 3) := by decide +kernel
theorem dd_MO_fact_27 : decode bb_MO_fact 27 = .ok (.ifCond .ne 8, 3) := by decide +kernel
theorem dd_MO_fact_30 : decode bb_MO_fact 30 = .ok (.aload_n 0, 1) := by decide +kernel
theorem dd_MO_fact_31 : decode bb_MO_fact 31 = .ok (.invokevirtual 72, 3) := by decide +kernel
theorem dd_MO_fact_34 : decode bb_MO_fact 34 = .ok (.ireturn, 1) := by decide +kernel
theorem dd_MO_fact_35 : decode bb_MO_fact 35 = .ok (.aload_n 0, 1) := by decide +kernel
theorem dd_MO_fact_36 : decode bb_MO_fact 36 = .ok (.iconst 4, 1) := by decide +kernel
theorem dd_MO_fact_37 : decode bb_MO_fact 37 = .ok (.invokevirtual 60, 3) := by decide +kernel
theorem dd_MO_fact_40 : decode bb_MO_fact 40 = .ok (.bipush 6, 2) := by decide +kernel
theorem dd_MO_fact_42 : decode bb_MO_fact 42 = .ok (.if_icmp .ne 8, 3) := by decide +kernel
theorem dd_MO_fact_45 : decode bb_MO_fact 45 = .ok (.aload_n 0, 1) := by decide +kernel
theorem dd_MO_fact_46 : decode bb_MO_fact 46 = .ok (.invokevirtual 76, 3) := by decide +kernel
theorem dd_MO_fact_49 : decode bb_MO_fact 49 = .ok (.ireturn, 1) := by decide +kernel
theorem dd_MO_fact_50 : decode bb_MO_fact 50 = .ok (.bipush 87, 2) := by decide +kernel
theorem dd_MO_fact_52 : decode bb_MO_fact 52 = .ok (.iconst 3, 1) := by decide +kernel
theorem dd_MO_fact_53 : decode bb_MO_fact 53 = .ok (.aload_n 0, 1) := by decide +kernel
theorem dd_MO_fact_54 : decode bb_MO_fact 54 = .ok (.iconst 4, 1) := by decide +kernel
theorem dd_MO_fact_55 : decode bb_MO_fact 55 = .ok (.invokevirtual 60, 3) := by decide +kernel
theorem dd_MO_fact_58 : decode bb_MO_fact 58 = .ok (.imul, 1) := by decide +kernel
theorem dd_MO_fact_59 : decode bb_MO_fact 59 = .ok (.iadd, 1) := by decide +kernel
theorem dd_MO_fact_60 : decode bb_MO_fact 60 = .ok (.istore 4, 2) := by decide +kernel
theorem dd_MO_fact_62 : decode bb_MO_fact 62 = .ok (.aload_n 0, 1) := by decide +kernel
theorem dd_MO_fact_63 : decode bb_MO_fact 63 = .ok (.iload 4, 2) := by decide +kernel
theorem dd_MO_fact_65 : decode bb_MO_fact 65 = .ok (.iload_n 1, 1) := by decide +kernel
theorem dd_MO_fact_66 : decode bb_MO_fact 66 = .ok (.invokevirtual 68, 3) := by decide +kernel
theorem dd_MO_fact_69 : decode bb_MO_fact 69 = .ok (.aload_n 0, 1) := by decide +kernel
theorem dd_MO_fact_70 : decode bb_MO_fact 70 = .ok (.iload 4, 2) := by decide +kernel
theorem dd_MO_fact_72 : decode bb_MO_fact 72 = .ok (.iconst 1, 1) := by decide +kernel
theorem dd_MO_fact_73 : decode bb_MO_fact 73 = .ok (.iadd, 1) := by decide +kernel
theorem dd_MO_fact_74 : decode bb_MO_fact 74 = .ok (.iload_n 2, 1) := by decide +kernel
theorem dd_MO_fact_75 : decode bb_MO_fact 75 = .ok (.invokevirtual 68, 3) := by decide +kernel
theorem dd_MO_fact_78 : decode bb_MO_fact 78 = .ok (.aload_n 0, 1) := by decide +kernel
theorem dd_MO_fact_79 : decode bb_MO_fact 79 = .ok (.iload 4, 2) := by decide +kernel
theorem dd_MO_fact_81 : decode bb_MO_fact 81 = .ok (.iconst 2, 1) := by decide +kernel
theorem dd_MO_fact_82 : decode bb_MO_fact 82 = .ok (.iadd, 1) := by decide +kernel
theorem dd_MO_fact_83 : decode bb_MO_fact 83 = .ok (.iload_n 3, 1) := by decide +kernel
theorem dd_MO_fact_84 : decode bb_MO_fact 84 = .ok (.invokevirtual 68, 3) := by decide +kernel
theorem dd_MO_fact_87 : decode bb_MO_fact 87 = .ok (.aload_n 0, 1) := by decide +kernel
theorem dd_MO_fact_88 : decode bb_MO_fact 88 = .ok (.iconst 4, 1) := by decide +kernel
theorem dd_MO_fact_89 : decode bb_MO_fact 89 = .ok (.aload_n 0, 1) := by decide +kernel
theorem dd_MO_fact_90 : decode bb_MO_fact 90 = .ok (.iconst 4, 1) := by decide +kernel
theorem dd_MO_fact_91 : decode bb_MO_fact 91 = .ok (.invokevirtual 60, 3) := by decide +kernel
theorem dd_MO_fact_94 : decode bb_MO_fact 94 = .ok (.iconst 1, 1) := by decide +kernel
theorem dd_MO_fact_95 : decode bb_MO_fact 95 = .ok (.iadd, 1) := by decide +kernel
theorem dd_MO_fact_96 : decode bb_MO_fact 96 = .ok (.invokevirtual 68, 3) := by decide +kernel
theorem dd_MO_fact_99 : decode bb_MO_fact 99 = .ok (.aload_n 0, 1) := by decide +kernel
theorem dd_MO_fact_100 : decode bb_MO_fact 100 = .ok (.iconst 4, 1) := by decide +kernel
theorem dd_MO_fact_101 : decode bb_MO_fact 101 = .ok (.invokevirtual 60, 3) := by decide +kernel
theorem dd_MO_fact_104 : decode bb_MO_fact 104 = .ok (.iconst 1, 1) := by decide +kernel
theorem dd_MO_fact_105 : decode bb_MO_fact 105 = .ok (.isub, 1) := by decide +kernel
theorem dd_MO_fact_106 : decode bb_MO_fact 106 = .ok (.ireturn, 1) := by decide +kernel
def ff_MO_fact  (x : St) (v0 : Nat) (v1 : Int32) (v2 : Int32) (v3 : Int32) : Option (Int32 × St) := bnd (ff_MO_in x v1 0 99) (fun r_1 x_2 => (if r_1 = 0 then bnd (ff_MO_bad x_2 v0) (fun r_5 x_6 => some (r_5, x_6)) else bnd (ff_MO_in x_2 v2 0 99) (fun r_8 x_9 => (if r_8 = 0 then bnd (ff_MO_bad x_9 v0) (fun r_12 x_13 => some (r_12, x_13)) else bnd (ff_MO_in x_9 v3 v2 100) (fun r_15 x_16 => (if r_15 = 0 then bnd (ff_MO_bad x_16 v0) (fun r_47 x_48 => some (r_47, x_48)) else bnd (ff_MO_get x_16 v0 4) (fun r_19 x_20 => (if r_19 = 6 then bnd (ff_MO_full x_20 v0) (fun r_44 x_45 => some (r_44, x_45)) else bnd (ff_MO_get x_20 v0 4) (fun r_23 x_24 => bnd (ff_MO_set x_24 v0 (87 + (3 * r_23)) v1) (fun _ x_27 => bnd (ff_MO_set x_27 v0 ((87 + (3 * r_23)) + 1) v2) (fun _ x_30 => bnd (ff_MO_set x_30 v0 ((87 + (3 * r_23)) + 2) v3) (fun _ x_33 => bnd (ff_MO_get x_33 v0 4) (fun r_35 x_36 => bnd (ff_MO_set x_36 v0 4 (r_35 + 1)) (fun _ x_39 => bnd (ff_MO_get x_39 v0 4) (fun r_41 x_42 => some (r_41 - 1, x_42))))))))))))))))
set_option maxHeartbeats 4000000 in
set_option maxRecDepth 100000 in
theorem ww_MO_fact {p : Program} {l : Launch} {e : Env} {s : State} {m : MethodId} {args : Array Value} {below : List Frame} {meth : Method} {c : Code} {E : Ev} {A : Nat → Prop} {ad : Nat → Nat} {r : Int32} {x' : St} (C0 : Cx E A RMO bb_MO_fact 5 (some .int) p s m args meth c) (hap : Ap ad ixM A)  {x : St} {v0 : Nat} {v1 : Int32} {v2 : Int32} {v3 : Int32} (ho_v0 : isO ixM v0 6) (hf : ff_MO_fact x v0 v1 v2 v3 = some (r, x')) {H : Heap} {locs : List Loc} {ls : Array Slot} (hP : Wd E ad ixM x H) (hS : va_S A s.heap H locs) (hl : lv_has ls 5 [(0, .ref (ad v0)), (1, .int v1), (2, .int v2), (3, .int v3)]) : W p l e rm_MO_fact s m args below meth c H locs 0 0 (MQ below (QX E ad ixM A (some (.int r)) x') args s 0 0 A) (F0 m 0 ls []) := by
  obtain ⟨hx, hb, hml, hr, hown, hts, hlk, hK⟩ := id C0
  have hf : bnd (ff_MO_in x v1 0 99) (fun r_1 x_2 => (if r_1 = 0 then bnd (ff_MO_bad x_2 v0) (fun r_5 x_6 => some (r_5, x_6)) else bnd (ff_MO_in x_2 v2 0 99) (fun r_8 x_9 => (if r_8 = 0 then bnd (ff_MO_bad x_9 v0) (fun r_12 x_13 => some (r_12, x_13)) else bnd (ff_MO_in x_9 v3 v2 100) (fun r_15 x_16 => (if r_15 = 0 then bnd (ff_MO_bad x_16 v0) (fun r_47 x_48 => some (r_47, x_48)) else bnd (ff_MO_get x_16 v0 4) (fun r_19 x_20 => (if r_19 = 6 then bnd (ff_MO_full x_20 v0) (fun r_44 x_45 => some (r_44, x_45)) else bnd (ff_MO_get x_20 v0 4) (fun r_23 x_24 => bnd (ff_MO_set x_24 v0 (87 + (3 * r_23)) v1) (fun _ x_27 => bnd (ff_MO_set x_27 v0 ((87 + (3 * r_23)) + 1) v2) (fun _ x_30 => bnd (ff_MO_set x_30 v0 ((87 + (3 * r_23)) + 2) v3) (fun _ x_33 => bnd (ff_MO_get x_33 v0 4) (fun r_35 x_36 => bnd (ff_MO_set x_36 v0 4 (r_35 + 1)) (fun _ x_39 => bnd (ff_MO_get x_39 v0 4) (fun r_41 x_42 => some (r_41 - 1, x_42)))))))))))))))) = some (r, x') := hf
  refine lv_iload_n hx hb dd_MO_fact_0 rfl (lv_at hl 1 rfl) ?_
  refine lv_iconst (v := 0) hx hb dd_MO_fact_1 (by decide) ?_
  refine lv_bipush (v := 99) hx hb dd_MO_fact_2 (by decide) ?_
  obtain ⟨r_1, x_2, c_3, hf⟩ := of_bnd hf
  refine cl_MO_64 C0 hap  c_3 hP hS ⟨Nat.le_of_ble_eq_true rfl, Nat.le_of_ble_eq_true rfl⟩ hl.1 (Nat.le_of_ble_eq_true rfl) dd_MO_fact_4 ⟨Nat.le_refl _, Nat.le_refl _⟩ (fun H locs hP hS => ?_)
  refine lv_if_eq (tgt := 30) hx hb dd_MO_fact_7 (by decide) (fun h_4 => ?_) (fun h_4 => ?_)
  · have hf := (if_pos h_4).symm.trans hf
    refine lv_aload_n hx hb dd_MO_fact_30 rfl (lv_at hl 0 rfl) ?_
    obtain ⟨r_5, x_6, c_7, hf⟩ := of_bnd hf
    refine cl_MO_72 C0 hap ho_v0 c_7 hP hS ⟨Nat.le_of_ble_eq_true rfl, Nat.le_of_ble_eq_true rfl⟩ hl.1 (Nat.le_of_ble_eq_true rfl) dd_MO_fact_31 ⟨Nat.le_refl _, Nat.le_refl _⟩ (fun H locs hP hS => ?_)
    exact rrI C0 hP hS dd_MO_fact_34 hf
  · have hf := (if_neg h_4).symm.trans hf
    refine lv_iload_n hx hb dd_MO_fact_10 rfl (lv_at hl 2 rfl) ?_
    refine lv_iconst (v := 0) hx hb dd_MO_fact_11 (by decide) ?_
    refine lv_bipush (v := 99) hx hb dd_MO_fact_12 (by decide) ?_
    obtain ⟨r_8, x_9, c_10, hf⟩ := of_bnd hf
    refine cl_MO_64 C0 hap  c_10 hP hS ⟨Nat.le_of_ble_eq_true rfl, Nat.le_of_ble_eq_true rfl⟩ hl.1 (Nat.le_of_ble_eq_true rfl) dd_MO_fact_14 ⟨Nat.le_refl _, Nat.le_refl _⟩ (fun H locs hP hS => ?_)
    refine lv_if_eq (tgt := 30) hx hb dd_MO_fact_17 (by decide) (fun h_11 => ?_) (fun h_11 => ?_)
    · have hf := (if_pos h_11).symm.trans hf
      refine lv_aload_n hx hb dd_MO_fact_30 rfl (lv_at hl 0 rfl) ?_
      obtain ⟨r_12, x_13, c_14, hf⟩ := of_bnd hf
      refine cl_MO_72 C0 hap ho_v0 c_14 hP hS ⟨Nat.le_of_ble_eq_true rfl, Nat.le_of_ble_eq_true rfl⟩ hl.1 (Nat.le_of_ble_eq_true rfl) dd_MO_fact_31 ⟨Nat.le_refl _, Nat.le_refl _⟩ (fun H locs hP hS => ?_)
      exact rrI C0 hP hS dd_MO_fact_34 hf
    · have hf := (if_neg h_11).symm.trans hf
      refine lv_iload_n hx hb dd_MO_fact_20 rfl (lv_at hl 3 rfl) ?_
      refine lv_iload_n hx hb dd_MO_fact_21 rfl (lv_at hl 2 rfl) ?_
      refine lv_bipush (v := 100) hx hb dd_MO_fact_22 (by decide) ?_
      obtain ⟨r_15, x_16, c_17, hf⟩ := of_bnd hf
      refine cl_MO_64 C0 hap  c_17 hP hS ⟨Nat.le_of_ble_eq_true rfl, Nat.le_of_ble_eq_true rfl⟩ hl.1 (Nat.le_of_ble_eq_true rfl) dd_MO_fact_24 ⟨Nat.le_refl _, Nat.le_refl _⟩ (fun H locs hP hS => ?_)
      refine lv_if_ne (tgt := 35) hx hb dd_MO_fact_27 (by decide) (fun h_18 => ?_) (fun h_18 => ?_)
      · have hf := (if_neg h_18).symm.trans hf
        refine lv_aload_n hx hb dd_MO_fact_35 rfl (lv_at hl 0 rfl) ?_
        refine lv_iconst (v := 4) hx hb dd_MO_fact_36 (by decide) ?_
        obtain ⟨r_19, x_20, c_21, hf⟩ := of_bnd hf
        refine cl_MO_60 C0 hap ho_v0 c_21 hP hS ⟨Nat.le_of_ble_eq_true rfl, Nat.le_of_ble_eq_true rfl⟩ hl.1 (Nat.le_of_ble_eq_true rfl) dd_MO_fact_37 ⟨Nat.le_refl _, Nat.le_refl _⟩ (fun H locs hP hS => ?_)
        refine lv_bipush (v := 6) hx hb dd_MO_fact_40 (by decide) ?_
        refine lv_icmp_ne (tgt := 50) hx hb dd_MO_fact_42 (by decide) (fun h_22 => ?_) (fun h_22 => ?_)
        · have hf := (if_neg h_22).symm.trans hf
          refine lv_bipush (v := 87) hx hb dd_MO_fact_50 (by decide) ?_
          refine lv_iconst (v := 3) hx hb dd_MO_fact_52 (by decide) ?_
          refine lv_aload_n hx hb dd_MO_fact_53 rfl (lv_at hl 0 rfl) ?_
          refine lv_iconst (v := 4) hx hb dd_MO_fact_54 (by decide) ?_
          obtain ⟨r_23, x_24, c_25, hf⟩ := of_bnd hf
          refine cl_MO_60 C0 hap ho_v0 c_25 hP hS ⟨Nat.le_of_ble_eq_true rfl, Nat.le_of_ble_eq_true rfl⟩ hl.1 (Nat.le_of_ble_eq_true rfl) dd_MO_fact_55 ⟨Nat.le_refl _, Nat.le_refl _⟩ (fun H locs hP hS => ?_)
          refine lv_imul hx hb dd_MO_fact_58 ?_
          refine lv_iadd hx hb dd_MO_fact_59 ?_
          refine lv_istore (lv' := [(4, .int (87 + (3 * r_23))), (0, .ref (ad v0)), (1, .int v1), (2, .int v2), (3, .int v3)]) hx hb dd_MO_fact_60 hl (by decide) rfl (fun ls hl => ?_)
          refine lv_aload_n hx hb dd_MO_fact_62 rfl (lv_at hl 1 rfl) ?_
          refine lv_iload hx hb dd_MO_fact_63 (lv_at hl 0 rfl) ?_
          refine lv_iload_n hx hb dd_MO_fact_65 rfl (lv_at hl 2 rfl) ?_
          obtain ⟨_, x_27, c_28, hf⟩ := of_bnd hf
          refine cl_MO_68 C0 hap ho_v0 c_28 hP hS ⟨Nat.le_of_ble_eq_true rfl, Nat.le_of_ble_eq_true rfl⟩ hl.1 (Nat.le_of_ble_eq_true rfl) dd_MO_fact_66 ⟨Nat.le_refl _, Nat.le_refl _⟩ (fun H locs hP hS => ?_)
          refine lv_aload_n hx hb dd_MO_fact_69 rfl (lv_at hl 1 rfl) ?_
          refine lv_iload hx hb dd_MO_fact_70 (lv_at hl 0 rfl) ?_
          refine lv_iconst (v := 1) hx hb dd_MO_fact_72 (by decide) ?_
          refine lv_iadd hx hb dd_MO_fact_73 ?_
          refine lv_iload_n hx hb dd_MO_fact_74 rfl (lv_at hl 3 rfl) ?_
          obtain ⟨_, x_30, c_31, hf⟩ := of_bnd hf
          refine cl_MO_68 C0 hap ho_v0 c_31 hP hS ⟨Nat.le_of_ble_eq_true rfl, Nat.le_of_ble_eq_true rfl⟩ hl.1 (Nat.le_of_ble_eq_true rfl) dd_MO_fact_75 ⟨Nat.le_refl _, Nat.le_refl _⟩ (fun H locs hP hS => ?_)
          refine lv_aload_n hx hb dd_MO_fact_78 rfl (lv_at hl 1 rfl) ?_
          refine lv_iload hx hb dd_MO_fact_79 (lv_at hl 0 rfl) ?_
          refine lv_iconst (v := 2) hx hb dd_MO_fact_81 (by decide) ?_
          refine lv_iadd hx hb dd_MO_fact_82 ?_
          refine lv_iload_n hx hb dd_MO_fact_83 rfl (lv_at hl 4 rfl) ?_
          obtain ⟨_, x_33, c_34, hf⟩ := of_bnd hf
          refine cl_MO_68 C0 hap ho_v0 c_34 hP hS ⟨Nat.le_of_ble_eq_true rfl, Nat.le_of_ble_eq_true rfl⟩ hl.1 (Nat.le_of_ble_eq_true rfl) dd_MO_fact_84 ⟨Nat.le_refl _, Nat.le_refl _⟩ (fun H locs hP hS => ?_)
          refine lv_aload_n hx hb dd_MO_fact_87 rfl (lv_at hl 1 rfl) ?_
          refine lv_iconst (v := 4) hx hb dd_MO_fact_88 (by decide) ?_
          refine lv_aload_n hx hb dd_MO_fact_89 rfl (lv_at hl 1 rfl) ?_
          refine lv_iconst (v := 4) hx hb dd_MO_fact_90 (by decide) ?_
          obtain ⟨r_35, x_36, c_37, hf⟩ := of_bnd hf
          refine cl_MO_60 C0 hap ho_v0 c_37 hP hS ⟨Nat.le_of_ble_eq_true rfl, Nat.le_of_ble_eq_true rfl⟩ hl.1 (Nat.le_of_ble_eq_true rfl) dd_MO_fact_91 ⟨Nat.le_refl _, Nat.le_refl _⟩ (fun H locs hP hS => ?_)
          refine lv_iconst (v := 1) hx hb dd_MO_fact_94 (by decide) ?_
          refine lv_iadd hx hb dd_MO_fact_95 ?_
          obtain ⟨_, x_39, c_40, hf⟩ := of_bnd hf
          refine cl_MO_68 C0 hap ho_v0 c_40 hP hS ⟨Nat.le_of_ble_eq_true rfl, Nat.le_of_ble_eq_true rfl⟩ hl.1 (Nat.le_of_ble_eq_true rfl) dd_MO_fact_96 ⟨Nat.le_refl _, Nat.le_refl _⟩ (fun H locs hP hS => ?_)
          refine lv_aload_n hx hb dd_MO_fact_99 rfl (lv_at hl 1 rfl) ?_
          refine lv_iconst (v := 4) hx hb dd_MO_fact_100 (by decide) ?_
          obtain ⟨r_41, x_42, c_43, hf⟩ := of_bnd hf
          refine cl_MO_60 C0 hap ho_v0 c_43 hP hS ⟨Nat.le_of_ble_eq_true rfl, Nat.le_of_ble_eq_true rfl⟩ hl.1 (Nat.le_of_ble_eq_true rfl) dd_MO_fact_101 ⟨Nat.le_refl _, Nat.le_refl _⟩ (fun H locs hP hS => ?_)
          refine lv_iconst (v := 1) hx hb dd_MO_fact_104 (by decide) ?_
          refine lv_isub hx hb dd_MO_fact_105 ?_
          exact rrI C0 hP hS dd_MO_fact_106 hf
        · have hf := (if_pos h_22).symm.trans hf
          refine lv_aload_n hx hb dd_MO_fact_45 rfl (lv_at hl 0 rfl) ?_
          obtain ⟨r_44, x_45, c_46, hf⟩ := of_bnd hf
          refine cl_MO_76 C0 hap ho_v0 c_46 hP hS ⟨Nat.le_of_ble_eq_true rfl, Nat.le_of_ble_eq_true rfl⟩ hl.1 (Nat.le_of_ble_eq_true rfl) dd_MO_fact_46 ⟨Nat.le_refl _, Nat.le_refl _⟩ (fun H locs hP hS => ?_)
          exact rrI C0 hP hS dd_MO_fact_49 hf
      · have hf := (if_pos h_18).symm.trans hf
        refine lv_aload_n hx hb dd_MO_fact_30 rfl (lv_at hl 0 rfl) ?_
        obtain ⟨r_47, x_48, c_49, hf⟩ := of_bnd hf
        refine cl_MO_72 C0 hap ho_v0 c_49 hP hS ⟨Nat.le_of_ble_eq_true rfl, Nat.le_of_ble_eq_true rfl⟩ hl.1 (Nat.le_of_ble_eq_true rfl) dd_MO_fact_31 ⟨Nat.le_refl _, Nat.le_refl _⟩ (fun H locs hP hS => ?_)
        exact rrI C0 hP hS dd_MO_fact_34 hf
theorem cc_MO_fact {l : Launch} {E : Ev} {A : Nat → Prop} {ad : Nat → Nat} (hap : Ap ad ixM A) {x x' : St} {v0 : Nat} {v1 : Int32} {v2 : Int32} {v3 : Int32} {r : Int32} (ho_v0 : isO ixM v0 6) (hf : ff_MO_fact x v0 v1 v2 v3 = some (r, x')) : Met l yy_MO_fact (Cond.code yy_MO_fact bb_MO_fact 5 (some .int) :: gtb) rm_MO_fact (va_Pc [.ref (ad v0), .int v1, .int v2, .int v3] (PB E A ad ixM x)) (QX E ad ixM A (some (.int r)) x') 0 0 A := by
  exact enter (by decide) (Nat.le_of_ble_eq_true rfl) (fun p e s m below meth c ls C0 hP hS hl => ww_MO_fact C0 hap ho_v0 hf hP hS hl)
abbrev rm_MO_forget : Room := { frames := 1, cells := 0, slots := 0, locals := 22 }
theorem dd_MO_forget_0 : decode bb_MO_forget 0 = .ok (.aload_n 0, 1) := by decide +kernel
theorem dd_MO_forget_1 : decode bb_MO_forget 1 = .ok (.iconst 4, 1) := by decide +kernel
theorem dd_MO_forget_2 : decode bb_MO_forget 2 = .ok (.invokevirtual 60, 3) := by decide +kernel
theorem dd_MO_forget_5 : decode bb_MO_forget 5 = .ok (.istore_n 1, 1) := by decide +kernel
theorem dd_MO_forget_6 : decode bb_MO_forget 6 = .ok (.aload_n 0, 1) := by decide +kernel
theorem dd_MO_forget_7 : decode bb_MO_forget 7 = .ok (.iconst 4, 1) := by decide +kernel
theorem dd_MO_forget_8 : decode bb_MO_forget 8 = .ok (.iconst 0, 1) := by decide +kernel
theorem dd_MO_forget_9 : decode bb_MO_forget 9 = .ok (.invokevirtual 68, 3) := by decide +kernel
theorem dd_MO_forget_12 : decode bb_MO_forget 12 = .ok (.iload_n 1, 1) := by decide +kernel
theorem dd_MO_forget_13 : decode bb_MO_forget 13 = .ok (.ireturn, 1) := by decide +kernel
def ff_MO_forget  (x : St) (v0 : Nat) : Option (Int32 × St) := bnd (ff_MO_get x v0 4) (fun r_1 x_2 => bnd (ff_MO_set x_2 v0 4 0) (fun _ x_5 => some (r_1, x_5)))
set_option maxHeartbeats 4000000 in
set_option maxRecDepth 100000 in
theorem ww_MO_forget {p : Program} {l : Launch} {e : Env} {s : State} {m : MethodId} {args : Array Value} {below : List Frame} {meth : Method} {c : Code} {E : Ev} {A : Nat → Prop} {ad : Nat → Nat} {r : Int32} {x' : St} (C0 : Cx E A RMO bb_MO_forget 2 (some .int) p s m args meth c) (hap : Ap ad ixM A)  {x : St} {v0 : Nat} (ho_v0 : isO ixM v0 6) (hf : ff_MO_forget x v0 = some (r, x')) {H : Heap} {locs : List Loc} {ls : Array Slot} (hP : Wd E ad ixM x H) (hS : va_S A s.heap H locs) (hl : lv_has ls 2 [(0, .ref (ad v0))]) : W p l e rm_MO_forget s m args below meth c H locs 0 0 (MQ below (QX E ad ixM A (some (.int r)) x') args s 0 0 A) (F0 m 0 ls []) := by
  obtain ⟨hx, hb, hml, hr, hown, hts, hlk, hK⟩ := id C0
  have hf : bnd (ff_MO_get x v0 4) (fun r_1 x_2 => bnd (ff_MO_set x_2 v0 4 0) (fun _ x_5 => some (r_1, x_5))) = some (r, x') := hf
  refine lv_aload_n hx hb dd_MO_forget_0 rfl (lv_at hl 0 rfl) ?_
  refine lv_iconst (v := 4) hx hb dd_MO_forget_1 (by decide) ?_
  obtain ⟨r_1, x_2, c_3, hf⟩ := of_bnd hf
  refine cl_MO_60 C0 hap ho_v0 c_3 hP hS ⟨Nat.le_of_ble_eq_true rfl, Nat.le_of_ble_eq_true rfl⟩ hl.1 (Nat.le_of_ble_eq_true rfl) dd_MO_forget_2 ⟨Nat.le_refl _, Nat.le_refl _⟩ (fun H locs hP hS => ?_)
  refine lv_istore_n (lv' := [(1, .int r_1), (0, .ref (ad v0))]) hx hb dd_MO_forget_5 rfl hl (by decide) rfl (fun ls hl => ?_)
  refine lv_aload_n hx hb dd_MO_forget_6 rfl (lv_at hl 1 rfl) ?_
  refine lv_iconst (v := 4) hx hb dd_MO_forget_7 (by decide) ?_
  refine lv_iconst (v := 0) hx hb dd_MO_forget_8 (by decide) ?_
  obtain ⟨_, x_5, c_6, hf⟩ := of_bnd hf
  refine cl_MO_68 C0 hap ho_v0 c_6 hP hS ⟨Nat.le_of_ble_eq_true rfl, Nat.le_of_ble_eq_true rfl⟩ hl.1 (Nat.le_of_ble_eq_true rfl) dd_MO_forget_9 ⟨Nat.le_refl _, Nat.le_refl _⟩ (fun H locs hP hS => ?_)
  refine lv_iload_n hx hb dd_MO_forget_12 rfl (lv_at hl 0 rfl) ?_
  exact rrI C0 hP hS dd_MO_forget_13 hf
theorem cc_MO_forget {l : Launch} {E : Ev} {A : Nat → Prop} {ad : Nat → Nat} (hap : Ap ad ixM A) {x x' : St} {v0 : Nat} {r : Int32} (ho_v0 : isO ixM v0 6) (hf : ff_MO_forget x v0 = some (r, x')) : Met l yy_MO_forget (Cond.code yy_MO_forget bb_MO_forget 2 (some .int) :: gtb) rm_MO_forget (va_Pc [.ref (ad v0)] (PB E A ad ixM x)) (QX E ad ixM A (some (.int r)) x') 0 0 A := by
  exact enter (by decide) (Nat.le_of_ble_eq_true rfl) (fun p e s m below meth c ls C0 hP hS hl => ww_MO_forget C0 hap ho_v0 hf hP hS hl)
abbrev rm_MO_isLikely : Room := { frames := 3, cells := 0, slots := 0, locals := 64 }
theorem dd_MO_isLikely_0 : decode bb_MO_isLikely 0 = .ok (.aload_n 0, 1) := by decide +kernel
theorem dd_MO_isLikely_1 : decode bb_MO_isLikely 1 = .ok (.getfield 40, 3) := by decide +kernel
theorem dd_MO_isLikely_4 : decode bb_MO_isLikely 4 = .ok (.iconst 0, 1) := by decide +kernel
theorem dd_MO_isLikely_5 : decode bb_MO_isLikely 5 = .ok (.iload_n 2, 1) := by decide +kernel
theorem dd_MO_isLikely_6 : decode bb_MO_isLikely 6 = .ok (.iastore, 1) := by decide +kernel
theorem dd_MO_isLikely_7 : decode bb_MO_isLikely 7 = .ok (.iconst 1, 1) := by decide +kernel
theorem dd_MO_isLikely_8 : decode bb_MO_isLikely 8 = .ok (.istore_n 3, 1) := by decide +kernel
theorem dd_MO_isLikely_9 : decode bb_MO_isLikely 9 = .ok (.iload_n 3, 1) := by decide +kernel
theorem dd_MO_isLikely_10 : decode bb_MO_isLikely 10 = .ok (.bipush 99, 2) := by decide +kernel
theorem dd_MO_isLikely_12 : decode bb_MO_isLikely 12 = .ok (.if_icmp .gt 28, 3) := by decide +kernel
theorem dd_MO_isLikely_15 : decode bb_MO_isLikely 15 = .ok (.aload_n 0, 1) := by decide +kernel
theorem dd_MO_isLikely_16 : decode bb_MO_isLikely 16 = .ok (.getfield 40, 3) := by decide +kernel
theorem dd_MO_isLikely_19 : decode bb_MO_isLikely 19 = .ok (.iload_n 3, 1) := by decide +kernel
theorem dd_MO_isLikely_20 : decode bb_MO_isLikely 20 = .ok (.iload_n 1, 1) := by decide +kernel
theorem dd_MO_isLikely_21 : decode bb_MO_isLikely 21 = .ok (.aload_n 0, 1) := by decide +kernel
theorem dd_MO_isLikely_22 : decode bb_MO_isLikely 22 = .ok (.getfield 40, 3) := by decide +kernel
theorem dd_MO_isLikely_25 : decode bb_MO_isLikely 25 = .ok (.iload_n 3, 1) := by decide +kernel
theorem dd_MO_isLikely_26 : decode bb_MO_isLikely 26 = .ok (.iconst 1, 1) := by decide +kernel
theorem dd_MO_isLikely_27 : decode bb_MO_isLikely 27 = .ok (.isub, 1) := by decide +kernel
theorem dd_MO_isLikely_28 : decode bb_MO_isLikely 28 = .ok (.iaload, 1) := by decide +kernel
theorem dd_MO_isLikely_29 : decode bb_MO_isLikely 29 = .ok (.iload_n 3, 1) := by decide +kernel
theorem dd_MO_isLikely_30 : decode bb_MO_isLikely 30 = .ok (.invokestatic 179, 3) := by decide +kernel
theorem dd_MO_isLikely_33 : decode bb_MO_isLikely 33 = .ok (.iastore, 1) := by decide +kernel
theorem dd_MO_isLikely_34 : decode bb_MO_isLikely 34 = .ok (.iinc 3 1, 3) := by decide +kernel
theorem dd_MO_isLikely_37 : decode bb_MO_isLikely 37 = .ok (.goto (-28), 3) := by decide +kernel
theorem dd_MO_isLikely_40 : decode bb_MO_isLikely 40 = .ok (.iconst 1, 1) := by decide +kernel
theorem dd_MO_isLikely_41 : decode bb_MO_isLikely 41 = .ok (.istore_n 3, 1) := by decide +kernel
theorem dd_MO_isLikely_42 : decode bb_MO_isLikely 42 = .ok (.iconst 0, 1) := by decide +kernel
theorem dd_MO_isLikely_43 : decode bb_MO_isLikely 43 = .ok (.istore 4, 2) := by decide +kernel
theorem dd_MO_isLikely_45 : decode bb_MO_isLikely 45 = .ok (.iload 4, 2) := by decide +kernel
theorem dd_MO_isLikely_47 : decode bb_MO_isLikely 47 = .ok (.aload_n 0, 1) := by decide +kernel
theorem dd_MO_isLikely_48 : decode bb_MO_isLikely 48 = .ok (.iconst 4, 1) := by decide +kernel
theorem dd_MO_isLikely_49 : decode bb_MO_isLikely 49 = .ok (.invokevirtual 60, 3) := by decide +kernel
theorem dd_MO_isLikely_52 : decode bb_MO_isLikely 52 = .ok (.if_icmp .ge 93, 3) := by decide +kernel
theorem dd_MO_isLikely_55 : decode bb_MO_isLikely 55 = .ok (.bipush 87, 2) := by decide +kernel
theorem dd_MO_isLikely_57 : decode bb_MO_isLikely 57 = .ok (.iconst 3, 1) := by decide +kernel
theorem dd_MO_isLikely_58 : decode bb_MO_isLikely 58 = .ok (.iload 4, 2) := by decide +kernel
theorem dd_MO_isLikely_60 : decode bb_MO_isLikely 60 = .ok (.imul, 1) := by decide +kernel
theorem dd_MO_isLikely_61 : decode bb_MO_isLikely 61 = .ok (.iadd, 1) := by decide +kernel
theorem dd_MO_isLikely_62 : decode bb_MO_isLikely 62 = .ok (.istore 5, 2) := by decide +kernel
theorem dd_MO_isLikely_64 : decode bb_MO_isLikely 64 = .ok (.bipush 100, 2) := by decide +kernel
theorem dd_MO_isLikely_66 : decode bb_MO_isLikely 66 = .ok (.istore 6, 2) := by decide +kernel
theorem dd_MO_isLikely_68 : decode bb_MO_isLikely 68 = .ok (.bipush 99, 2) := by decide +kernel
theorem dd_MO_isLikely_70 : decode bb_MO_isLikely 70 = .ok (.istore 7, 2) := by decide +kernel
theorem dd_MO_isLikely_72 : decode bb_MO_isLikely 72 = .ok (.iload 7, 2) := by decide +kernel
theorem dd_MO_isLikely_74 : decode bb_MO_isLikely 74 = .ok (.aload_n 0, 1) := by decide +kernel
theorem dd_MO_isLikely_75 : decode bb_MO_isLikely 75 = .ok (.iload 5, 2) := by decide +kernel
theorem dd_MO_isLikely_77 : decode bb_MO_isLikely 77 = .ok (.iconst 1, 1) := by decide +kernel
theorem dd_MO_isLikely_78 : decode bb_MO_isLikely 78 = .ok (.iadd, 1) := by decide +kernel
theorem dd_MO_isLikely_79 : decode bb_MO_isLikely 79 = .ok (.invokevirtual 60, 3) := by decide +kernel
theorem dd_MO_isLikely_82 : decode bb_MO_isLikely 82 = .ok (.if_icmp .lt 34, 3) := by decide +kernel
theorem dd_MO_isLikely_85 : decode bb_MO_isLikely 85 = .ok (.aload_n 0, 1) := by decide +kernel
theorem dd_MO_isLikely_86 : decode bb_MO_isLikely 86 = .ok (.getfield 40, 3) := by decide +kernel
theorem dd_MO_isLikely_89 : decode bb_MO_isLikely 89 = .ok (.iload 7, 2) := by decide +kernel
theorem dd_MO_isLikely_91 : decode bb_MO_isLikely 91 = .ok (.iaload, 1) := by decide +kernel
theorem dd_MO_isLikely_92 : decode bb_MO_isLikely 92 = .ok (.aload_n 0, 1) := by decide +kernel
theorem dd_MO_isLikely_93 : decode bb_MO_isLikely 93 = .ok (.iload 5, 2) := by decide +kernel
theorem dd_MO_isLikely_95 : decode bb_MO_isLikely 95 = .ok (.invokevirtual 60, 3) := by decide +kernel
theorem dd_MO_isLikely_98 : decode bb_MO_isLikely 98 = .ok (.if_icmp .ge 8, 3) := by decide +kernel
theorem dd_MO_isLikely_101 : decode bb_MO_isLikely 101 = .ok (.iload 7, 2) := by decide +kernel
theorem dd_MO_isLikely_103 : decode bb_MO_isLikely 103 = .ok (.goto 5, 3) := by decide +kernel
theorem dd_MO_isLikely_106 : decode bb_MO_isLikely 106 = .ok (.iload 6, 2) := by decide +kernel
theorem dd_MO_isLikely_108 : decode bb_MO_isLikely 108 = .ok (.istore 6, 2) := by decide +kernel
theorem dd_MO_isLikely_110 : decode bb_MO_isLikely 110 = .ok (.iinc 7 (-1), 3) := by decide +kernel
theorem dd_MO_isLikely_113 : decode bb_MO_isLikely 113 = .ok (.goto (-41), 3) := by decide +kernel
theorem dd_MO_isLikely_116 : decode bb_MO_isLikely 116 = .ok (.iload_n 3, 1) := by decide +kernel
theorem dd_MO_isLikely_117 : decode bb_MO_isLikely 117 = .ok (.ifCond .eq 20, 3) := by decide +kernel
theorem dd_MO_isLikely_120 : decode bb_MO_isLikely 120 = .ok (.iload 6, 2) := by decide +kernel
theorem dd_MO_isLikely_122 : decode bb_MO_isLikely 122 = .ok (.aload_n 0, 1) := by decide +kernel
theorem dd_MO_isLikely_123 : decode bb_MO_isLikely 123 = .ok (.iload 5, 2) := by decide +kernel
theorem dd_MO_isLikely_125 : decode bb_MO_isLikely 125 = .ok (.iconst 2, 1) := by decide +kernel
theorem dd_MO_isLikely_126 : decode bb_MO_isLikely 126 = .ok (.iadd, 1) := by decide +kernel
theorem dd_MO_isLikely_127 : decode bb_MO_isLikely 127 = .ok (.invokevirtual 60, 3) := by decide +kernel
theorem dd_MO_isLikely_130 : decode bb_MO_isLikely 130 = .ok (.if_icmp .ne 7, 3) := by decide +kernel
theorem dd_MO_isLikely_133 : decode bb_MO_isLikely 133 = .ok (.iconst 1, 1) := by decide +kernel
theorem dd_MO_isLikely_134 : decode bb_MO_isLikely 134 = .ok (.goto 4, 3) := by decide +kernel
theorem dd_MO_isLikely_137 : decode bb_MO_isLikely 137 = .ok (.iconst 0, 1) := by decide +kernel
theorem dd_MO_isLikely_138 : decode bb_MO_isLikely 138 = .ok (.istore_n 3, 1) := by decide +kernel
theorem dd_MO_isLikely_139 : decode bb_MO_isLikely 139 = .ok (.iinc 4 1, 3) := by decide +kernel
theorem dd_MO_isLikely_142 : decode bb_MO_isLikely 142 = .ok (.goto (-97), 3) := by decide +kernel
theorem dd_MO_isLikely_145 : decode bb_MO_isLikely 145 = .ok (.iload_n 3, 1) := by decide +kernel
theorem dd_MO_isLikely_146 : decode bb_MO_isLikely 146 = .ok (.ireturn, 1) := by decide +kernel
def ff_MO_isLikely_116 (k_45 : St → Nat → Int32 → Int32 → Option (Int32 × St)) (x : St) (v0 : Nat) (v3 : Int32) (v4 : Int32) (v5 : Int32) (v6 : Int32) : Option (Int32 × St) := (if v3 = 0 then k_45 x v0 0 (v4 + 1) else bnd (ff_MO_get x v0 (v5 + 2)) (fun r_14 x_15 => (if v6 = r_14 then k_45 x_15 v0 1 (v4 + 1) else k_45 x_15 v0 0 (v4 + 1))))
def ff_MO_isLikely_72 (k_45 : St → Nat → Int32 → Int32 → Option (Int32 × St)) : Nat → St → Nat → Int32 → Int32 → Int32 → Int32 → Int32 → Option (Int32 × St)
  | 0, _, _, _, _, _, _, _ => none
  | n + 1, x, v0, v3, v4, v5, v6, v7 => bnd (ff_MO_get x v0 (v5 + 1)) (fun r_9 x_10 => (if v7 < r_9 then ff_MO_isLikely_116 k_45 x_10 v0 v3 v4 v5 v6 else (if ixb v7 (ln (rf v0 18)) = true then bnd (ff_MO_get x_10 v0 v5) (fun r_19 x_20 => (if r_19 ≤ (gi x_10 (rf v0 18) (ix v7)) then ff_MO_isLikely_72 k_45 n x_20 v0 v3 v4 v5 v6 (v7 + (-1)) else ff_MO_isLikely_72 k_45 n x_20 v0 v3 v4 v5 v7 (v7 + (-1)))) else none)))
def ff_MO_isLikely_45  : Nat → St → Nat → Int32 → Int32 → Option (Int32 × St)
  | 0, _, _, _, _ => none
  | n + 1, x, v0, v3, v4 => bnd (ff_MO_get x v0 4) (fun r_4 x_5 => (if r_4 ≤ v4 then (if zb v3 = true then some (v3, x_5) else none) else ff_MO_isLikely_72 (ff_MO_isLikely_45 n) FU x_5 v0 v3 v4 (87 + (3 * v4)) 100 99))
def ff_MO_isLikely_40  (x : St) (v0 : Nat) : Option (Int32 × St) := ff_MO_isLikely_45 FU x v0 1 0
def ff_MO_isLikely_9  : Nat → St → Nat → Int32 → Int32 → Option (Int32 × St)
  | 0, _, _, _, _ => none
  | n + 1, x, v0, v1, v3 => (if 99 < v3 then ff_MO_isLikely_40 x v0 else (if ixb (v3 - 1) (ln (rf v0 18)) = true then bnd (ff_MO_step x v1 (gi x (rf v0 18) (ix (v3 - 1))) v3) (fun r_24 x_25 => (if ixb v3 (ln (rf v0 18)) = true then st (si x_25 (rf v0 18) (ix v3) r_24) (fun x_28 => ff_MO_isLikely_9 n x_28 v0 v1 (v3 + 1)) else none)) else none))
def ff_MO_isLikely  (x : St) (v0 : Nat) (v1 : Int32) (v2 : Int32) : Option (Int32 × St) := (if ixb 0 (ln (rf v0 18)) = true then st (si x (rf v0 18) (ix 0) v2) (fun x_2 => ff_MO_isLikely_9 FU x_2 v0 v1 1) else none)
set_option maxHeartbeats 4000000 in
set_option maxRecDepth 100000 in
theorem ww_MO_isLikely_116 {p : Program} {l : Launch} {e : Env} {s : State} {m : MethodId} {args : Array Value} {below : List Frame} {meth : Method} {c : Code} {E : Ev} {A : Nat → Prop} {ad : Nat → Nat} {r : Int32} {x' : St} (C0 : Cx E A RMO bb_MO_isLikely 8 (some .boolean) p s m args meth c) (hap : Ap ad ixM A) {k_45 : St → Nat → Int32 → Int32 → Option (Int32 × St)} (hk_45 : ∀ (x : St) (v0 : Nat) (v3 : Int32) (v4 : Int32), (isO ixM v0 6) → k_45 x v0 v3 v4 = some (r, x') → ∀ (H : Heap) (locs : List Loc) (ls : Array Slot), Wd E ad ixM x H → va_S A s.heap H locs → lv_has ls 8 [(0, .ref (ad v0)), (3, .int v3), (4, .int v4)] → W p l e rm_MO_isLikely s m args below meth c H locs 0 0 (MQ below (QX E ad ixM A (some (.int r)) x') args s 0 0 A) (F0 m 45 ls [])) {x : St} {v0 : Nat} {v3 : Int32} {v4 : Int32} {v5 : Int32} {v6 : Int32} (ho_v0 : isO ixM v0 6) (hf : ff_MO_isLikely_116 k_45 x v0 v3 v4 v5 v6 = some (r, x')) {H : Heap} {locs : List Loc} {ls : Array Slot} (hP : Wd E ad ixM x H) (hS : va_S A s.heap H locs) (hl : lv_has ls 8 [(0, .ref (ad v0)), (3, .int v3), (4, .int v4), (5, .int v5), (6, .int v6)]) : W p l e rm_MO_isLikely s m args below meth c H locs 0 0 (MQ below (QX E ad ixM A (some (.int r)) x') args s 0 0 A) (F0 m 116 ls []) := by
  obtain ⟨hx, hb, hml, hr, hown, hts, hlk, hK⟩ := id C0
  have hf : (if v3 = 0 then k_45 x v0 0 (v4 + 1) else bnd (ff_MO_get x v0 (v5 + 2)) (fun r_14 x_15 => (if v6 = r_14 then k_45 x_15 v0 1 (v4 + 1) else k_45 x_15 v0 0 (v4 + 1)))) = some (r, x') := hf
  refine lv_iload_n hx hb dd_MO_isLikely_116 rfl (lv_at hl 1 rfl) ?_
  refine lv_if_eq (tgt := 137) hx hb dd_MO_isLikely_117 (by decide) (fun h_13 => ?_) (fun h_13 => ?_)
  · have hf := (if_pos h_13).symm.trans hf
    refine lv_iconst (v := 0) hx hb dd_MO_isLikely_137 (by decide) ?_
    refine lv_istore_n (lv' := [(3, .int 0), (0, .ref (ad v0)), (4, .int v4), (5, .int v5), (6, .int v6)]) hx hb dd_MO_isLikely_138 rfl hl (by decide) rfl (fun ls hl => ?_)
    refine lv_iinc (v := v4 + 1) (lv' := [(4, .int (v4 + 1)), (3, .int 0), (0, .ref (ad v0)), (5, .int v5), (6, .int v6)]) hx hb dd_MO_isLikely_139 hl (k := 2) rfl rfl (by decide) rfl (fun ls hl => ?_)
    refine lv_goto (tgt := 45) hx hb dd_MO_isLikely_142 (by decide) ?_
    exact hk_45 x v0 0 (v4 + 1) ho_v0 hf _ _ _ hP hS (lv_sub hl [2, 1, 0] rfl)
  · have hf := (if_neg h_13).symm.trans hf
    refine lv_iload hx hb dd_MO_isLikely_120 (lv_at hl 4 rfl) ?_
    refine lv_aload_n hx hb dd_MO_isLikely_122 rfl (lv_at hl 0 rfl) ?_
    refine lv_iload hx hb dd_MO_isLikely_123 (lv_at hl 3 rfl) ?_
    refine lv_iconst (v := 2) hx hb dd_MO_isLikely_125 (by decide) ?_
    refine lv_iadd hx hb dd_MO_isLikely_126 ?_
    obtain ⟨r_14, x_15, c_16, hf⟩ := of_bnd hf
    refine cl_MO_60 C0 hap ho_v0 c_16 hP hS ⟨Nat.le_of_ble_eq_true rfl, Nat.le_of_ble_eq_true rfl⟩ hl.1 (Nat.le_of_ble_eq_true rfl) dd_MO_isLikely_127 ⟨Nat.le_refl _, Nat.le_refl _⟩ (fun H locs hP hS => ?_)
    refine lv_icmp_ne (tgt := 137) hx hb dd_MO_isLikely_130 (by decide) (fun h_17 => ?_) (fun h_17 => ?_)
    · have hf := (if_neg h_17).symm.trans hf
      refine lv_iconst (v := 0) hx hb dd_MO_isLikely_137 (by decide) ?_
      refine lv_istore_n (lv' := [(3, .int 0), (0, .ref (ad v0)), (4, .int v4), (5, .int v5), (6, .int v6)]) hx hb dd_MO_isLikely_138 rfl hl (by decide) rfl (fun ls hl => ?_)
      refine lv_iinc (v := v4 + 1) (lv' := [(4, .int (v4 + 1)), (3, .int 0), (0, .ref (ad v0)), (5, .int v5), (6, .int v6)]) hx hb dd_MO_isLikely_139 hl (k := 2) rfl rfl (by decide) rfl (fun ls hl => ?_)
      refine lv_goto (tgt := 45) hx hb dd_MO_isLikely_142 (by decide) ?_
      exact hk_45 x_15 v0 0 (v4 + 1) ho_v0 hf _ _ _ hP hS (lv_sub hl [2, 1, 0] rfl)
    · have hf := (if_pos h_17).symm.trans hf
      refine lv_iconst (v := 1) hx hb dd_MO_isLikely_133 (by decide) ?_
      refine lv_goto (tgt := 138) hx hb dd_MO_isLikely_134 (by decide) ?_
      refine lv_istore_n (lv' := [(3, .int 1), (0, .ref (ad v0)), (4, .int v4), (5, .int v5), (6, .int v6)]) hx hb dd_MO_isLikely_138 rfl hl (by decide) rfl (fun ls hl => ?_)
      refine lv_iinc (v := v4 + 1) (lv' := [(4, .int (v4 + 1)), (3, .int 1), (0, .ref (ad v0)), (5, .int v5), (6, .int v6)]) hx hb dd_MO_isLikely_139 hl (k := 2) rfl rfl (by decide) rfl (fun ls hl => ?_)
      refine lv_goto (tgt := 45) hx hb dd_MO_isLikely_142 (by decide) ?_
      exact hk_45 x_15 v0 1 (v4 + 1) ho_v0 hf _ _ _ hP hS (lv_sub hl [2, 1, 0] rfl)
set_option maxHeartbeats 4000000 in
set_option maxRecDepth 100000 in
theorem ww_MO_isLikely_72 {p : Program} {l : Launch} {e : Env} {s : State} {m : MethodId} {args : Array Value} {below : List Frame} {meth : Method} {c : Code} {E : Ev} {A : Nat → Prop} {ad : Nat → Nat} {r : Int32} {x' : St} (C0 : Cx E A RMO bb_MO_isLikely 8 (some .boolean) p s m args meth c) (hap : Ap ad ixM A) {k_45 : St → Nat → Int32 → Int32 → Option (Int32 × St)} (hk_45 : ∀ (x : St) (v0 : Nat) (v3 : Int32) (v4 : Int32), (isO ixM v0 6) → k_45 x v0 v3 v4 = some (r, x') → ∀ (H : Heap) (locs : List Loc) (ls : Array Slot), Wd E ad ixM x H → va_S A s.heap H locs → lv_has ls 8 [(0, .ref (ad v0)), (3, .int v3), (4, .int v4)] → W p l e rm_MO_isLikely s m args below meth c H locs 0 0 (MQ below (QX E ad ixM A (some (.int r)) x') args s 0 0 A) (F0 m 45 ls [])) : ∀ (n : Nat), ∀ (x : St) (v0 : Nat) (v3 : Int32) (v4 : Int32) (v5 : Int32) (v6 : Int32) (v7 : Int32), (isO ixM v0 6) → ff_MO_isLikely_72 k_45 n x v0 v3 v4 v5 v6 v7 = some (r, x') → ∀ (H : Heap) (locs : List Loc) (ls : Array Slot), Wd E ad ixM x H → va_S A s.heap H locs → lv_has ls 8 [(0, .ref (ad v0)), (3, .int v3), (4, .int v4), (5, .int v5), (6, .int v6), (7, .int v7)] → W p l e rm_MO_isLikely s m args below meth c H locs 0 0 (MQ below (QX E ad ixM A (some (.int r)) x') args s 0 0 A) (F0 m 72 ls []) := by
  obtain ⟨hx, hb, hml, hr, hown, hts, hlk, hK⟩ := id C0
  intro n
  induction n with
  | zero => intro x v0 v3 v4 v5 v6 v7 ho_v0 hf; exact of_no hf
  | succ n ih =>
    intro x v0 v3 v4 v5 v6 v7 ho_v0 hf H locs ls hP hS hl
    have hf : bnd (ff_MO_get x v0 (v5 + 1)) (fun r_9 x_10 => (if v7 < r_9 then ff_MO_isLikely_116 k_45 x_10 v0 v3 v4 v5 v6 else (if ixb v7 (ln (rf v0 18)) = true then bnd (ff_MO_get x_10 v0 v5) (fun r_19 x_20 => (if r_19 ≤ (gi x_10 (rf v0 18) (ix v7)) then ff_MO_isLikely_72 k_45 n x_20 v0 v3 v4 v5 v6 (v7 + (-1)) else ff_MO_isLikely_72 k_45 n x_20 v0 v3 v4 v5 v7 (v7 + (-1)))) else none))) = some (r, x') := hf
    refine lv_iload hx hb dd_MO_isLikely_72 (lv_at hl 5 rfl) ?_
    refine lv_aload_n hx hb dd_MO_isLikely_74 rfl (lv_at hl 0 rfl) ?_
    refine lv_iload hx hb dd_MO_isLikely_75 (lv_at hl 3 rfl) ?_
    refine lv_iconst (v := 1) hx hb dd_MO_isLikely_77 (by decide) ?_
    refine lv_iadd hx hb dd_MO_isLikely_78 ?_
    obtain ⟨r_9, x_10, c_11, hf⟩ := of_bnd hf
    refine cl_MO_60 C0 hap ho_v0 c_11 hP hS ⟨Nat.le_of_ble_eq_true rfl, Nat.le_of_ble_eq_true rfl⟩ hl.1 (Nat.le_of_ble_eq_true rfl) dd_MO_isLikely_79 ⟨Nat.le_refl _, Nat.le_refl _⟩ (fun H locs hP hS => ?_)
    refine lv_icmp_lt (tgt := 116) hx hb dd_MO_isLikely_82 (by decide) (fun h_12 => ?_) (fun h_12 => ?_)
    · have hf := (if_pos h_12).symm.trans hf
      exact ww_MO_isLikely_116 C0 hap hk_45 ho_v0 hf hP hS (lv_sub hl [0, 1, 2, 3, 4] rfl)
    · have hf := (if_neg h_12).symm.trans hf
      refine lv_aload_n hx hb dd_MO_isLikely_85 rfl (lv_at hl 0 rfl) ?_
      refine gf_MO_40 C0 hP ho_v0 dd_MO_isLikely_86 ?_
      refine lv_iload hx hb dd_MO_isLikely_89 (lv_at hl 5 rfl) ?_
      obtain ⟨h_18, hf⟩ := of_ifb hf
      refine raI C0 hP (tp_6_18 ho_v0) h_18 dd_MO_isLikely_91 ?_
      refine lv_aload_n hx hb dd_MO_isLikely_92 rfl (lv_at hl 0 rfl) ?_
      refine lv_iload hx hb dd_MO_isLikely_93 (lv_at hl 3 rfl) ?_
      obtain ⟨r_19, x_20, c_21, hf⟩ := of_bnd hf
      refine cl_MO_60 C0 hap ho_v0 c_21 hP hS ⟨Nat.le_of_ble_eq_true rfl, Nat.le_of_ble_eq_true rfl⟩ hl.1 (Nat.le_of_ble_eq_true rfl) dd_MO_isLikely_95 ⟨Nat.le_refl _, Nat.le_refl _⟩ (fun H locs hP hS => ?_)
      refine lv_icmp_ge (tgt := 106) hx hb dd_MO_isLikely_98 (by decide) (fun h_22 => ?_) (fun h_22 => ?_)
      · have hf := (if_pos h_22).symm.trans hf
        refine lv_iload hx hb dd_MO_isLikely_106 (lv_at hl 4 rfl) ?_
        refine lv_istore (lv' := [(6, .int v6), (0, .ref (ad v0)), (3, .int v3), (4, .int v4), (5, .int v5), (7, .int v7)]) hx hb dd_MO_isLikely_108 hl (by decide) rfl (fun ls hl => ?_)
        refine lv_iinc (v := v7 + (-1)) (lv' := [(7, .int (v7 + (-1))), (6, .int v6), (0, .ref (ad v0)), (3, .int v3), (4, .int v4), (5, .int v5)]) hx hb dd_MO_isLikely_110 hl (k := 5) rfl rfl (by decide) rfl (fun ls hl => ?_)
        refine lv_goto (tgt := 72) hx hb dd_MO_isLikely_113 (by decide) ?_
        exact ih x_20 v0 v3 v4 v5 v6 (v7 + (-1)) ho_v0 hf _ _ _ hP hS (lv_sub hl [2, 3, 4, 5, 1, 0] rfl)
      · have hf := (if_neg h_22).symm.trans hf
        refine lv_iload hx hb dd_MO_isLikely_101 (lv_at hl 5 rfl) ?_
        refine lv_goto (tgt := 108) hx hb dd_MO_isLikely_103 (by decide) ?_
        refine lv_istore (lv' := [(6, .int v7), (0, .ref (ad v0)), (3, .int v3), (4, .int v4), (5, .int v5), (7, .int v7)]) hx hb dd_MO_isLikely_108 hl (by decide) rfl (fun ls hl => ?_)
        refine lv_iinc (v := v7 + (-1)) (lv' := [(7, .int (v7 + (-1))), (6, .int v7), (0, .ref (ad v0)), (3, .int v3), (4, .int v4), (5, .int v5)]) hx hb dd_MO_isLikely_110 hl (k := 5) rfl rfl (by decide) rfl (fun ls hl => ?_)
        refine lv_goto (tgt := 72) hx hb dd_MO_isLikely_113 (by decide) ?_
        exact ih x_20 v0 v3 v4 v5 v7 (v7 + (-1)) ho_v0 hf _ _ _ hP hS (lv_sub hl [2, 3, 4, 5, 1, 0] rfl)
set_option maxHeartbeats 4000000 in
set_option maxRecDepth 100000 in
theorem ww_MO_isLikely_45 {p : Program} {l : Launch} {e : Env} {s : State} {m : MethodId} {args : Array Value} {below : List Frame} {meth : Method} {c : Code} {E : Ev} {A : Nat → Prop} {ad : Nat → Nat} {r : Int32} {x' : St} (C0 : Cx E A RMO bb_MO_isLikely 8 (some .boolean) p s m args meth c) (hap : Ap ad ixM A)  : ∀ (n : Nat), ∀ (x : St) (v0 : Nat) (v3 : Int32) (v4 : Int32), (isO ixM v0 6) → ff_MO_isLikely_45 n x v0 v3 v4 = some (r, x') → ∀ (H : Heap) (locs : List Loc) (ls : Array Slot), Wd E ad ixM x H → va_S A s.heap H locs → lv_has ls 8 [(0, .ref (ad v0)), (3, .int v3), (4, .int v4)] → W p l e rm_MO_isLikely s m args below meth c H locs 0 0 (MQ below (QX E ad ixM A (some (.int r)) x') args s 0 0 A) (F0 m 45 ls []) := by
  obtain ⟨hx, hb, hml, hr, hown, hts, hlk, hK⟩ := id C0
  intro n
  induction n with
  | zero => intro x v0 v3 v4 ho_v0 hf; exact of_no hf
  | succ n ih =>
    intro x v0 v3 v4 ho_v0 hf H locs ls hP hS hl
    have hf : bnd (ff_MO_get x v0 4) (fun r_4 x_5 => (if r_4 ≤ v4 then (if zb v3 = true then some (v3, x_5) else none) else ff_MO_isLikely_72 (ff_MO_isLikely_45 n) FU x_5 v0 v3 v4 (87 + (3 * v4)) 100 99)) = some (r, x') := hf
    refine lv_iload hx hb dd_MO_isLikely_45 (lv_at hl 2 rfl) ?_
    refine lv_aload_n hx hb dd_MO_isLikely_47 rfl (lv_at hl 0 rfl) ?_
    refine lv_iconst (v := 4) hx hb dd_MO_isLikely_48 (by decide) ?_
    obtain ⟨r_4, x_5, c_6, hf⟩ := of_bnd hf
    refine cl_MO_60 C0 hap ho_v0 c_6 hP hS ⟨Nat.le_of_ble_eq_true rfl, Nat.le_of_ble_eq_true rfl⟩ hl.1 (Nat.le_of_ble_eq_true rfl) dd_MO_isLikely_49 ⟨Nat.le_refl _, Nat.le_refl _⟩ (fun H locs hP hS => ?_)
    refine lv_icmp_ge (tgt := 145) hx hb dd_MO_isLikely_52 (by decide) (fun h_7 => ?_) (fun h_7 => ?_)
    · have hf := (if_pos h_7).symm.trans hf
      refine lv_iload_n hx hb dd_MO_isLikely_145 rfl (lv_at hl 1 rfl) ?_
      obtain ⟨h_8, hf⟩ := of_ifb hf
      exact rrZ C0 hP hS (zb_or h_8) dd_MO_isLikely_146 hf
    · have hf := (if_neg h_7).symm.trans hf
      refine lv_bipush (v := 87) hx hb dd_MO_isLikely_55 (by decide) ?_
      refine lv_iconst (v := 3) hx hb dd_MO_isLikely_57 (by decide) ?_
      refine lv_iload hx hb dd_MO_isLikely_58 (lv_at hl 2 rfl) ?_
      refine lv_imul hx hb dd_MO_isLikely_60 ?_
      refine lv_iadd hx hb dd_MO_isLikely_61 ?_
      refine lv_istore (lv' := [(5, .int (87 + (3 * v4))), (0, .ref (ad v0)), (3, .int v3), (4, .int v4)]) hx hb dd_MO_isLikely_62 hl (by decide) rfl (fun ls hl => ?_)
      refine lv_bipush (v := 100) hx hb dd_MO_isLikely_64 (by decide) ?_
      refine lv_istore (lv' := [(6, .int 100), (5, .int (87 + (3 * v4))), (0, .ref (ad v0)), (3, .int v3), (4, .int v4)]) hx hb dd_MO_isLikely_66 hl (by decide) rfl (fun ls hl => ?_)
      refine lv_bipush (v := 99) hx hb dd_MO_isLikely_68 (by decide) ?_
      refine lv_istore (lv' := [(7, .int 99), (6, .int 100), (5, .int (87 + (3 * v4))), (0, .ref (ad v0)), (3, .int v3), (4, .int v4)]) hx hb dd_MO_isLikely_70 hl (by decide) rfl (fun ls hl => ?_)
      exact ww_MO_isLikely_72 C0 hap ih FU x_5 v0 v3 v4 (87 + (3 * v4)) 100 99 ho_v0 hf _ _ _ hP hS (lv_sub hl [3, 4, 5, 2, 1, 0] rfl)
set_option maxHeartbeats 4000000 in
set_option maxRecDepth 100000 in
theorem ww_MO_isLikely_40 {p : Program} {l : Launch} {e : Env} {s : State} {m : MethodId} {args : Array Value} {below : List Frame} {meth : Method} {c : Code} {E : Ev} {A : Nat → Prop} {ad : Nat → Nat} {r : Int32} {x' : St} (C0 : Cx E A RMO bb_MO_isLikely 8 (some .boolean) p s m args meth c) (hap : Ap ad ixM A)  {x : St} {v0 : Nat} (ho_v0 : isO ixM v0 6) (hf : ff_MO_isLikely_40 x v0 = some (r, x')) {H : Heap} {locs : List Loc} {ls : Array Slot} (hP : Wd E ad ixM x H) (hS : va_S A s.heap H locs) (hl : lv_has ls 8 [(0, .ref (ad v0))]) : W p l e rm_MO_isLikely s m args below meth c H locs 0 0 (MQ below (QX E ad ixM A (some (.int r)) x') args s 0 0 A) (F0 m 40 ls []) := by
  obtain ⟨hx, hb, hml, hr, hown, hts, hlk, hK⟩ := id C0
  have hf : ff_MO_isLikely_45 FU x v0 1 0 = some (r, x') := hf
  refine lv_iconst (v := 1) hx hb dd_MO_isLikely_40 (by decide) ?_
  refine lv_istore_n (lv' := [(3, .int 1), (0, .ref (ad v0))]) hx hb dd_MO_isLikely_41 rfl hl (by decide) rfl (fun ls hl => ?_)
  refine lv_iconst (v := 0) hx hb dd_MO_isLikely_42 (by decide) ?_
  refine lv_istore (lv' := [(4, .int 0), (3, .int 1), (0, .ref (ad v0))]) hx hb dd_MO_isLikely_43 hl (by decide) rfl (fun ls hl => ?_)
  exact ww_MO_isLikely_45 C0 hap  FU x v0 1 0 ho_v0 hf _ _ _ hP hS (lv_sub hl [2, 1, 0] rfl)
set_option maxHeartbeats 4000000 in
set_option maxRecDepth 100000 in
theorem ww_MO_isLikely_9 {p : Program} {l : Launch} {e : Env} {s : State} {m : MethodId} {args : Array Value} {below : List Frame} {meth : Method} {c : Code} {E : Ev} {A : Nat → Prop} {ad : Nat → Nat} {r : Int32} {x' : St} (C0 : Cx E A RMO bb_MO_isLikely 8 (some .boolean) p s m args meth c) (hap : Ap ad ixM A)  : ∀ (n : Nat), ∀ (x : St) (v0 : Nat) (v1 : Int32) (v3 : Int32), (isO ixM v0 6) → ff_MO_isLikely_9 n x v0 v1 v3 = some (r, x') → ∀ (H : Heap) (locs : List Loc) (ls : Array Slot), Wd E ad ixM x H → va_S A s.heap H locs → lv_has ls 8 [(0, .ref (ad v0)), (1, .int v1), (3, .int v3)] → W p l e rm_MO_isLikely s m args below meth c H locs 0 0 (MQ below (QX E ad ixM A (some (.int r)) x') args s 0 0 A) (F0 m 9 ls []) := by
  obtain ⟨hx, hb, hml, hr, hown, hts, hlk, hK⟩ := id C0
  intro n
  induction n with
  | zero => intro x v0 v1 v3 ho_v0 hf; exact of_no hf
  | succ n ih =>
    intro x v0 v1 v3 ho_v0 hf H locs ls hP hS hl
    have hf : (if 99 < v3 then ff_MO_isLikely_40 x v0 else (if ixb (v3 - 1) (ln (rf v0 18)) = true then bnd (ff_MO_step x v1 (gi x (rf v0 18) (ix (v3 - 1))) v3) (fun r_24 x_25 => (if ixb v3 (ln (rf v0 18)) = true then st (si x_25 (rf v0 18) (ix v3) r_24) (fun x_28 => ff_MO_isLikely_9 n x_28 v0 v1 (v3 + 1)) else none)) else none)) = some (r, x') := hf
    refine lv_iload_n hx hb dd_MO_isLikely_9 rfl (lv_at hl 2 rfl) ?_
    refine lv_bipush (v := 99) hx hb dd_MO_isLikely_10 (by decide) ?_
    refine lv_icmp_gt (tgt := 40) hx hb dd_MO_isLikely_12 (by decide) (fun h_3 => ?_) (fun h_3 => ?_)
    · have hf := (if_pos h_3).symm.trans hf
      exact ww_MO_isLikely_40 C0 hap  ho_v0 hf hP hS (lv_sub hl [0] rfl)
    · have hf := (if_neg h_3).symm.trans hf
      refine lv_aload_n hx hb dd_MO_isLikely_15 rfl (lv_at hl 0 rfl) ?_
      refine gf_MO_40 C0 hP ho_v0 dd_MO_isLikely_16 ?_
      refine lv_iload_n hx hb dd_MO_isLikely_19 rfl (lv_at hl 2 rfl) ?_
      refine lv_iload_n hx hb dd_MO_isLikely_20 rfl (lv_at hl 1 rfl) ?_
      refine lv_aload_n hx hb dd_MO_isLikely_21 rfl (lv_at hl 0 rfl) ?_
      refine gf_MO_40 C0 hP ho_v0 dd_MO_isLikely_22 ?_
      refine lv_iload_n hx hb dd_MO_isLikely_25 rfl (lv_at hl 2 rfl) ?_
      refine lv_iconst (v := 1) hx hb dd_MO_isLikely_26 (by decide) ?_
      refine lv_isub hx hb dd_MO_isLikely_27 ?_
      obtain ⟨h_23, hf⟩ := of_ifb hf
      refine raI C0 hP (tp_6_18 ho_v0) h_23 dd_MO_isLikely_28 ?_
      refine lv_iload_n hx hb dd_MO_isLikely_29 rfl (lv_at hl 2 rfl) ?_
      obtain ⟨r_24, x_25, c_26, hf⟩ := of_bnd hf
      refine cl_MO_179 C0 hap  c_26 hP hS ⟨Nat.le_of_ble_eq_true rfl, Nat.le_of_ble_eq_true rfl⟩ hl.1 (Nat.le_of_ble_eq_true rfl) dd_MO_isLikely_30 ⟨Nat.le_refl _, Nat.le_refl _⟩ (fun H locs hP hS => ?_)
      obtain ⟨h_27, hf⟩ := of_ifb hf
      obtain ⟨x_28, hx_28, hf⟩ := of_st hf
      refine sI C0 hap hP hS (tp_6_18 ho_v0) h_27 hx_28 dd_MO_isLikely_33 (fun H locs hP hS => ?_)
      refine lv_iinc (v := v3 + 1) (lv' := [(3, .int (v3 + 1)), (0, .ref (ad v0)), (1, .int v1)]) hx hb dd_MO_isLikely_34 hl (k := 2) rfl rfl (by decide) rfl (fun ls hl => ?_)
      refine lv_goto (tgt := 9) hx hb dd_MO_isLikely_37 (by decide) ?_
      exact ih x_28 v0 v1 (v3 + 1) ho_v0 hf _ _ _ hP hS (lv_sub hl [1, 2, 0] rfl)
set_option maxHeartbeats 4000000 in
set_option maxRecDepth 100000 in
theorem ww_MO_isLikely {p : Program} {l : Launch} {e : Env} {s : State} {m : MethodId} {args : Array Value} {below : List Frame} {meth : Method} {c : Code} {E : Ev} {A : Nat → Prop} {ad : Nat → Nat} {r : Int32} {x' : St} (C0 : Cx E A RMO bb_MO_isLikely 8 (some .boolean) p s m args meth c) (hap : Ap ad ixM A)  {x : St} {v0 : Nat} {v1 : Int32} {v2 : Int32} (ho_v0 : isO ixM v0 6) (hf : ff_MO_isLikely x v0 v1 v2 = some (r, x')) {H : Heap} {locs : List Loc} {ls : Array Slot} (hP : Wd E ad ixM x H) (hS : va_S A s.heap H locs) (hl : lv_has ls 8 [(0, .ref (ad v0)), (1, .int v1), (2, .int v2)]) : W p l e rm_MO_isLikely s m args below meth c H locs 0 0 (MQ below (QX E ad ixM A (some (.int r)) x') args s 0 0 A) (F0 m 0 ls []) := by
  obtain ⟨hx, hb, hml, hr, hown, hts, hlk, hK⟩ := id C0
  have hf : (if ixb 0 (ln (rf v0 18)) = true then st (si x (rf v0 18) (ix 0) v2) (fun x_2 => ff_MO_isLikely_9 FU x_2 v0 v1 1) else none) = some (r, x') := hf
  refine lv_aload_n hx hb dd_MO_isLikely_0 rfl (lv_at hl 0 rfl) ?_
  refine gf_MO_40 C0 hP ho_v0 dd_MO_isLikely_1 ?_
  refine lv_iconst (v := 0) hx hb dd_MO_isLikely_4 (by decide) ?_
  refine lv_iload_n hx hb dd_MO_isLikely_5 rfl (lv_at hl 2 rfl) ?_
  obtain ⟨h_1, hf⟩ := of_ifb hf
  obtain ⟨x_2, hx_2, hf⟩ := of_st hf
  refine sI C0 hap hP hS (tp_6_18 ho_v0) h_1 hx_2 dd_MO_isLikely_6 (fun H locs hP hS => ?_)
  refine lv_iconst (v := 1) hx hb dd_MO_isLikely_7 (by decide) ?_
  refine lv_istore_n (lv' := [(3, .int 1), (0, .ref (ad v0)), (1, .int v1), (2, .int v2)]) hx hb dd_MO_isLikely_8 rfl hl (by decide) rfl (fun ls hl => ?_)
  exact ww_MO_isLikely_9 C0 hap  FU x_2 v0 v1 1 ho_v0 hf _ _ _ hP hS (lv_sub hl [1, 2, 0] rfl)
theorem cc_MO_isLikely {l : Launch} {E : Ev} {A : Nat → Prop} {ad : Nat → Nat} (hap : Ap ad ixM A) {x x' : St} {v0 : Nat} {v1 : Int32} {v2 : Int32} {r : Int32} (ho_v0 : isO ixM v0 6) (hf : ff_MO_isLikely x v0 v1 v2 = some (r, x')) : Met l yy_MO_isLikely (Cond.code yy_MO_isLikely bb_MO_isLikely 8 (some .boolean) :: gtb) rm_MO_isLikely (va_Pc [.ref (ad v0), .int v1, .int v2] (PB E A ad ixM x)) (QX E ad ixM A (some (.int r)) x') 0 0 A := by
  exact enter (by decide) (Nat.le_of_ble_eq_true rfl) (fun p e s m below meth c ls C0 hP hS hl => ww_MO_isLikely C0 hap ho_v0 hf hP hS hl)
theorem cl_MO_219 {p : Program} {l : Launch} {e : Env} {R : Room} {s : State} {m : MethodId} {args : Array Value} {below : List Frame} {meth : Method} {c : Code} {H : Heap} {locs : List Loc} {cells slots : Nat} {Q : State → Prop} {cc : ByteArray} {pc : Nat} {ls : Array Slot} {rest : List Value} {E : Ev} {A : Nat → Prop} {ad : Nat → Nat} {nL : Nat} {rt : Option FieldType} (C0 : Cx E A RMO cc nL rt p s m args meth c) (hap : Ap ad ixM A) {x x' : St} {v0 : Nat} {v1 : Int32} {v2 : Int32} {r : Int32} (ho_v0 : isO ixM v0 6) (hc : ff_MO_isLikely x v0 v1 v2 = some (r, x')) (hP : Wd E ad ixM x H) (hS : va_S A s.heap H locs) (hR : rm_MO_isLikely.frames + 1 ≤ R.frames ∧ 8 + (8 + 11) + rm_MO_isLikely.locals ≤ R.locals) (hls : ls.size = nL) (hroom : (rest.map fun v => v.category).sum ≤ 8) (hdg : decode cc pc = .ok (.invokevirtual 219, 3)) (hf : cells ≤ R.cells ∧ slots ≤ R.slots) (kk : ∀ H1 locs1, Wd E ad ixM x' H1 → va_S A s.heap H1 locs1 → W p l e R s m args below meth c H1 locs1 cells slots Q (F0 m (pc + 3) ls (.int r :: rest))) : W p l e R s m args below meth c H locs cells slots Q (F0 m pc ls (.int v2 :: .int v1 :: .ref (ad v0) :: rest)) :=
  rcV (n := 2) C0 (cc_MO_isLikely hap ho_v0 hc) hP hS ho_v0 vcl_6 (by decide) gw_code_MO_isLikely gw_m_MO_219 gw_inst_MO_isLikely gw_sel_MO_isLikely gw_ini_MO rfl rfl (by decide +kernel) rfl hR hls rfl hroom hdg hf (fun H1 locs1 a _ _ b => kk H1 locs1 a b)
abbrev rm_MO_likely : Room := { frames := 4, cells := 0, slots := 0, locals := 91 }
theorem dd_MO_likely_0 : decode bb_MO_likely 0 = .ok (.iload_n 1, 1) := by decide +kernel
theorem dd_MO_likely_1 : decode bb_MO_likely 1 = .ok (.iconst 0, 1) := by decide +kernel
theorem dd_MO_likely_2 : decode bb_MO_likely 2 = .ok (.iconst 5, 1) := by decide +kernel
theorem dd_MO_likely_3 : decode bb_MO_likely 3 = .ok (.invokestatic 64, 3) := by decide +kernel
theorem dd_MO_likely_6 : decode bb_MO_likely 6 = .ok (.ifCond .eq 12, 3) := by decide +kernel
theorem dd_MO_likely_9 : decode bb_MO_likely 9 = .ok (.iload_n 2, 1) := by decide +kernel
theorem dd_MO_likely_10 : decode bb_MO_likely 10 = .ok (.iconst 0, 1) := by decide +kernel
theorem dd_MO_likely_11 : decode bb_MO_likely 11 = .ok (.iconst 2, 1) := by decide +kernel
theorem dd_MO_likely_12 : decode bb_MO_likely 12 = .ok (.invokestatic 64, 3) := by decide +kernel
theorem dd_MO_likely_15 : decode bb_MO_likely 15 = .ok (.ifCond .ne 8, 3) := by decide +kernel
theorem dd_MO_likely_18 : decode bb_MO_likely 18 = .ok (.aload_n 0, 1) := by decide +kernel
theorem dd_MO_likely_19 : decode bb_MO_likely 19 = .ok (.invokevirtual 72, 3) := by decide +kernel
theorem dd_MO_likely_22 : decode bb_MO_likely 22 = .ok (.ireturn, 1) := by decide +kernel
theorem dd_MO_likely_23 : decode bb_MO_likely 23 = .ok (.iconst 0, 1) := by decide +kernel
theorem dd_MO_likely_24 : decode bb_MO_likely 24 = .ok (.istore_n 3, 1) := by decide +kernel
theorem dd_MO_likely_25 : decode bb_MO_likely 25 = .ok (.iconst (-1), 1) := by decide +kernel
theorem dd_MO_likely_26 : decode bb_MO_likely 26 = .ok (.istore 4, 2) := by decide +kernel
theorem dd_MO_likely_28 : decode bb_MO_likely 28 = .ok (.iconst (-1), 1) := by decide +kernel
theorem dd_MO_likely_29 : decode bb_MO_likely 29 = .ok (.istore 5, 2) := by decide +kernel
theorem dd_MO_likely_31 : decode bb_MO_likely 31 = .ok (.iconst 0, 1) := by decide +kernel
theorem dd_MO_likely_32 : decode bb_MO_likely 32 = .ok (.istore 6, 2) := by decide +kernel
theorem dd_MO_likely_34 : decode bb_MO_likely 34 = .ok (.iload 6, 2) := by decide +kernel
theorem dd_MO_likely_36 : decode bb_MO_likely 36 = .ok (.bipush 99, 2) := by decide +kernel
theorem dd_MO_likely_38 : decode bb_MO_likely 38 = .ok (.if_icmp .gt 41, 3) := by decide +kernel
theorem dd_MO_likely_41 : decode bb_MO_likely 41 = .ok (.aload_n 0, 1) := by decide +kernel
theorem dd_MO_likely_42 : decode bb_MO_likely 42 = .ok (.iload_n 1, 1) := by decide +kernel
theorem dd_MO_likely_43 : decode bb_MO_likely 43 = .ok (.iload 6, 2) := by decide +kernel
theorem dd_MO_likely_45 : decode bb_MO_likely 45 = .ok (.invokevirtual 219, 3) := by decide +kernel
theorem dd_MO_likely_48 : decode bb_MO_likely 48 = .ok (.ifCond .eq 25, 3) := by decide +kernel
theorem dd_MO_likely_51 : decode bb_MO_likely 51 = .ok (.iinc 3 1, 3) := by decide +kernel
theorem dd_MO_likely_54 : decode bb_MO_likely 54 = .ok (.iload 4, 2) := by decide +kernel
theorem dd_MO_likely_56 : decode bb_MO_likely 56 = .ok (.iconst (-1), 1) := by decide +kernel
theorem dd_MO_likely_57 : decode bb_MO_likely 57 = .ok (.if_icmp .ne 8, 3) := by decide +kernel
theorem dd_MO_likely_60 : decode bb_MO_likely 60 = .ok (.iload 6, 2) := by decide +kernel
theorem dd_MO_likely_62 : decode bb_MO_likely 62 = .ok (.goto 5, 3) := by decide +kernel
theorem dd_MO_likely_65 : decode bb_MO_likely 65 = .ok (.iload 4, 2) := by decide +kernel
theorem dd_MO_likely_67 : decode bb_MO_likely 67 = .ok (.istore 4, 2) := by decide +kernel
theorem dd_MO_likely_69 : decode bb_MO_likely 69 = .ok (.iload 6, 2) := by decide +kernel
theorem dd_MO_likely_71 : decode bb_MO_likely 71 = .ok (.istore 5, 2) := by decide +kernel
theorem dd_MO_likely_73 : decode bb_MO_likely 73 = .ok (.iinc 6 1, 3) := by decide +kernel
theorem dd_MO_likely_76 : decode bb_MO_likely 76 = .ok (.goto (-42), 3) := by decide +kernel
theorem dd_MO_likely_79 : decode bb_MO_likely 79 = .ok (.iload_n 2, 1) := by decide +kernel
theorem dd_MO_likely_80 : decode bb_MO_likely 80 = .ok (.ifCond .ne 7, 3) := by decide +kernel
theorem dd_MO_likely_83 : decode bb_MO_likely 83 = .ok (.iload_n 3, 1) := by decide +kernel
theorem dd_MO_likely_84 : decode bb_MO_likely 84 = .ok (.goto 15, 3) := by decide +kernel
theorem dd_MO_likely_87 : decode bb_MO_likely 87 = .ok (.iload_n 2, 1) := by decide +kernel
theorem dd_MO_likely_88 : decode bb_MO_likely 88 = .ok (.iconst 1, 1) := by decide +kernel
theorem dd_MO_likely_89 : decode bb_MO_likely 89 = .ok (.if_icmp .ne 8, 3) := by decide +kernel
theorem dd_MO_likely_92 : decode bb_MO_likely 92 = .ok (.iload 4, 2) := by decide +kernel
theorem dd_MO_likely_94 : decode bb_MO_likely 94 = .ok (.goto 5, 3) := by decide +kernel
theorem dd_MO_likely_97 : decode bb_MO_likely 97 = .ok (.iload 5, 2) := by decide +kernel
theorem dd_MO_likely_99 : decode bb_MO_likely 99 = .ok (.ireturn, 1) := by decide +kernel
def ff_MO_likely_79  (x : St) (v2 : Int32) (v3 : Int32) (v4 : Int32) (v5 : Int32) : Option (Int32 × St) := (if v2 = 0 then some (v3, x) else (if v2 = 1 then some (v4, x) else some (v5, x)))
def ff_MO_likely_34  : Nat → St → Nat → Int32 → Int32 → Int32 → Int32 → Int32 → Int32 → Option (Int32 × St)
  | 0, _, _, _, _, _, _, _, _ => none
  | n + 1, x, v0, v1, v2, v3, v4, v5, v6 => (if 99 < v6 then ff_MO_likely_79 x v2 v3 v4 v5 else bnd (ff_MO_isLikely x v0 v1 v6) (fun r_15 x_16 => (if r_15 = 0 then ff_MO_likely_34 n x_16 v0 v1 v2 v3 v4 v5 (v6 + 1) else (if v4 = (-1) then ff_MO_likely_34 n x_16 v0 v1 v2 (v3 + 1) v6 v6 (v6 + 1) else ff_MO_likely_34 n x_16 v0 v1 v2 (v3 + 1) v4 v6 (v6 + 1)))))
def ff_MO_likely  (x : St) (v0 : Nat) (v1 : Int32) (v2 : Int32) : Option (Int32 × St) := bnd (ff_MO_in x v1 0 5) (fun r_1 x_2 => (if r_1 = 0 then bnd (ff_MO_bad x_2 v0) (fun r_5 x_6 => some (r_5, x_6)) else bnd (ff_MO_in x_2 v2 0 2) (fun r_8 x_9 => (if r_8 = 0 then bnd (ff_MO_bad x_9 v0) (fun r_20 x_21 => some (r_20, x_21)) else ff_MO_likely_34 FU x_9 v0 v1 v2 0 (-1) (-1) 0))))
set_option maxHeartbeats 4000000 in
set_option maxRecDepth 100000 in
theorem ww_MO_likely_79 {p : Program} {l : Launch} {e : Env} {s : State} {m : MethodId} {args : Array Value} {below : List Frame} {meth : Method} {c : Code} {E : Ev} {A : Nat → Prop} {ad : Nat → Nat} {r : Int32} {x' : St} (C0 : Cx E A RMO bb_MO_likely 7 (some .int) p s m args meth c) (hap : Ap ad ixM A)  {x : St} {v2 : Int32} {v3 : Int32} {v4 : Int32} {v5 : Int32}  (hf : ff_MO_likely_79 x v2 v3 v4 v5 = some (r, x')) {H : Heap} {locs : List Loc} {ls : Array Slot} (hP : Wd E ad ixM x H) (hS : va_S A s.heap H locs) (hl : lv_has ls 7 [(2, .int v2), (3, .int v3), (4, .int v4), (5, .int v5)]) : W p l e rm_MO_likely s m args below meth c H locs 0 0 (MQ below (QX E ad ixM A (some (.int r)) x') args s 0 0 A) (F0 m 79 ls []) := by
  obtain ⟨hx, hb, hml, hr, hown, hts, hlk, hK⟩ := id C0
  have hf : (if v2 = 0 then some (v3, x) else (if v2 = 1 then some (v4, x) else some (v5, x))) = some (r, x') := hf
  refine lv_iload_n hx hb dd_MO_likely_79 rfl (lv_at hl 0 rfl) ?_
  refine lv_if_ne (tgt := 87) hx hb dd_MO_likely_80 (by decide) (fun h_13 => ?_) (fun h_13 => ?_)
  · have hf := (if_neg h_13).symm.trans hf
    refine lv_iload_n hx hb dd_MO_likely_87 rfl (lv_at hl 0 rfl) ?_
    refine lv_iconst (v := 1) hx hb dd_MO_likely_88 (by decide) ?_
    refine lv_icmp_ne (tgt := 97) hx hb dd_MO_likely_89 (by decide) (fun h_14 => ?_) (fun h_14 => ?_)
    · have hf := (if_neg h_14).symm.trans hf
      refine lv_iload hx hb dd_MO_likely_97 (lv_at hl 3 rfl) ?_
      exact rrI C0 hP hS dd_MO_likely_99 hf
    · have hf := (if_pos h_14).symm.trans hf
      refine lv_iload hx hb dd_MO_likely_92 (lv_at hl 2 rfl) ?_
      refine lv_goto (tgt := 99) hx hb dd_MO_likely_94 (by decide) ?_
      exact rrI C0 hP hS dd_MO_likely_99 hf
  · have hf := (if_pos h_13).symm.trans hf
    refine lv_iload_n hx hb dd_MO_likely_83 rfl (lv_at hl 1 rfl) ?_
    refine lv_goto (tgt := 99) hx hb dd_MO_likely_84 (by decide) ?_
    exact rrI C0 hP hS dd_MO_likely_99 hf
set_option maxHeartbeats 4000000 in
set_option maxRecDepth 100000 in
theorem ww_MO_likely_34 {p : Program} {l : Launch} {e : Env} {s : State} {m : MethodId} {args : Array Value} {below : List Frame} {meth : Method} {c : Code} {E : Ev} {A : Nat → Prop} {ad : Nat → Nat} {r : Int32} {x' : St} (C0 : Cx E A RMO bb_MO_likely 7 (some .int) p s m args meth c) (hap : Ap ad ixM A)  : ∀ (n : Nat), ∀ (x : St) (v0 : Nat) (v1 : Int32) (v2 : Int32) (v3 : Int32) (v4 : Int32) (v5 : Int32) (v6 : Int32), (isO ixM v0 6) → ff_MO_likely_34 n x v0 v1 v2 v3 v4 v5 v6 = some (r, x') → ∀ (H : Heap) (locs : List Loc) (ls : Array Slot), Wd E ad ixM x H → va_S A s.heap H locs → lv_has ls 7 [(0, .ref (ad v0)), (1, .int v1), (2, .int v2), (3, .int v3), (4, .int v4), (5, .int v5), (6, .int v6)] → W p l e rm_MO_likely s m args below meth c H locs 0 0 (MQ below (QX E ad ixM A (some (.int r)) x') args s 0 0 A) (F0 m 34 ls []) := by
  obtain ⟨hx, hb, hml, hr, hown, hts, hlk, hK⟩ := id C0
  intro n
  induction n with
  | zero => intro x v0 v1 v2 v3 v4 v5 v6 ho_v0 hf; exact of_no hf
  | succ n ih =>
    intro x v0 v1 v2 v3 v4 v5 v6 ho_v0 hf H locs ls hP hS hl
    have hf : (if 99 < v6 then ff_MO_likely_79 x v2 v3 v4 v5 else bnd (ff_MO_isLikely x v0 v1 v6) (fun r_15 x_16 => (if r_15 = 0 then ff_MO_likely_34 n x_16 v0 v1 v2 v3 v4 v5 (v6 + 1) else (if v4 = (-1) then ff_MO_likely_34 n x_16 v0 v1 v2 (v3 + 1) v6 v6 (v6 + 1) else ff_MO_likely_34 n x_16 v0 v1 v2 (v3 + 1) v4 v6 (v6 + 1))))) = some (r, x') := hf
    refine lv_iload hx hb dd_MO_likely_34 (lv_at hl 6 rfl) ?_
    refine lv_bipush (v := 99) hx hb dd_MO_likely_36 (by decide) ?_
    refine lv_icmp_gt (tgt := 79) hx hb dd_MO_likely_38 (by decide) (fun h_12 => ?_) (fun h_12 => ?_)
    · have hf := (if_pos h_12).symm.trans hf
      exact ww_MO_likely_79 C0 hap   hf hP hS (lv_sub hl [2, 3, 4, 5] rfl)
    · have hf := (if_neg h_12).symm.trans hf
      refine lv_aload_n hx hb dd_MO_likely_41 rfl (lv_at hl 0 rfl) ?_
      refine lv_iload_n hx hb dd_MO_likely_42 rfl (lv_at hl 1 rfl) ?_
      refine lv_iload hx hb dd_MO_likely_43 (lv_at hl 6 rfl) ?_
      obtain ⟨r_15, x_16, c_17, hf⟩ := of_bnd hf
      refine cl_MO_219 C0 hap ho_v0 c_17 hP hS ⟨Nat.le_of_ble_eq_true rfl, Nat.le_of_ble_eq_true rfl⟩ hl.1 (Nat.le_of_ble_eq_true rfl) dd_MO_likely_45 ⟨Nat.le_refl _, Nat.le_refl _⟩ (fun H locs hP hS => ?_)
      refine lv_if_eq (tgt := 73) hx hb dd_MO_likely_48 (by decide) (fun h_18 => ?_) (fun h_18 => ?_)
      · have hf := (if_pos h_18).symm.trans hf
        refine lv_iinc (v := v6 + 1) (lv' := [(6, .int (v6 + 1)), (0, .ref (ad v0)), (1, .int v1), (2, .int v2), (3, .int v3), (4, .int v4), (5, .int v5)]) hx hb dd_MO_likely_73 hl (k := 6) rfl rfl (by decide) rfl (fun ls hl => ?_)
        refine lv_goto (tgt := 34) hx hb dd_MO_likely_76 (by decide) ?_
        exact ih x_16 v0 v1 v2 v3 v4 v5 (v6 + 1) ho_v0 hf _ _ _ hP hS (lv_sub hl [1, 2, 3, 4, 5, 6, 0] rfl)
      · have hf := (if_neg h_18).symm.trans hf
        refine lv_iinc (v := v3 + 1) (lv' := [(3, .int (v3 + 1)), (0, .ref (ad v0)), (1, .int v1), (2, .int v2), (4, .int v4), (5, .int v5), (6, .int v6)]) hx hb dd_MO_likely_51 hl (k := 3) rfl rfl (by decide) rfl (fun ls hl => ?_)
        refine lv_iload hx hb dd_MO_likely_54 (lv_at hl 4 rfl) ?_
        refine lv_iconst (v := -1) hx hb dd_MO_likely_56 (by decide) ?_
        refine lv_icmp_ne (tgt := 65) hx hb dd_MO_likely_57 (by decide) (fun h_19 => ?_) (fun h_19 => ?_)
        · have hf := (if_neg h_19).symm.trans hf
          refine lv_iload hx hb dd_MO_likely_65 (lv_at hl 4 rfl) ?_
          refine lv_istore (lv' := [(4, .int v4), (3, .int (v3 + 1)), (0, .ref (ad v0)), (1, .int v1), (2, .int v2), (5, .int v5), (6, .int v6)]) hx hb dd_MO_likely_67 hl (by decide) rfl (fun ls hl => ?_)
          refine lv_iload hx hb dd_MO_likely_69 (lv_at hl 6 rfl) ?_
          refine lv_istore (lv' := [(5, .int v6), (4, .int v4), (3, .int (v3 + 1)), (0, .ref (ad v0)), (1, .int v1), (2, .int v2), (6, .int v6)]) hx hb dd_MO_likely_71 hl (by decide) rfl (fun ls hl => ?_)
          refine lv_iinc (v := v6 + 1) (lv' := [(6, .int (v6 + 1)), (5, .int v6), (4, .int v4), (3, .int (v3 + 1)), (0, .ref (ad v0)), (1, .int v1), (2, .int v2)]) hx hb dd_MO_likely_73 hl (k := 6) rfl rfl (by decide) rfl (fun ls hl => ?_)
          refine lv_goto (tgt := 34) hx hb dd_MO_likely_76 (by decide) ?_
          exact ih x_16 v0 v1 v2 (v3 + 1) v4 v6 (v6 + 1) ho_v0 hf _ _ _ hP hS (lv_sub hl [4, 5, 6, 3, 2, 1, 0] rfl)
        · have hf := (if_pos h_19).symm.trans hf
          refine lv_iload hx hb dd_MO_likely_60 (lv_at hl 6 rfl) ?_
          refine lv_goto (tgt := 67) hx hb dd_MO_likely_62 (by decide) ?_
          refine lv_istore (lv' := [(4, .int v6), (3, .int (v3 + 1)), (0, .ref (ad v0)), (1, .int v1), (2, .int v2), (5, .int v5), (6, .int v6)]) hx hb dd_MO_likely_67 hl (by decide) rfl (fun ls hl => ?_)
          refine lv_iload hx hb dd_MO_likely_69 (lv_at hl 6 rfl) ?_
          refine lv_istore (lv' := [(5, .int v6), (4, .int v6), (3, .int (v3 + 1)), (0, .ref (ad v0)), (1, .int v1), (2, .int v2), (6, .int v6)]) hx hb dd_MO_likely_71 hl (by decide) rfl (fun ls hl => ?_)
          refine lv_iinc (v := v6 + 1) (lv' := [(6, .int (v6 + 1)), (5, .int v6), (4, .int v6), (3, .int (v3 + 1)), (0, .ref (ad v0)), (1, .int v1), (2, .int v2)]) hx hb dd_MO_likely_73 hl (k := 6) rfl rfl (by decide) rfl (fun ls hl => ?_)
          refine lv_goto (tgt := 34) hx hb dd_MO_likely_76 (by decide) ?_
          exact ih x_16 v0 v1 v2 (v3 + 1) v6 v6 (v6 + 1) ho_v0 hf _ _ _ hP hS (lv_sub hl [4, 5, 6, 3, 2, 1, 0] rfl)
set_option maxHeartbeats 4000000 in
set_option maxRecDepth 100000 in
theorem ww_MO_likely {p : Program} {l : Launch} {e : Env} {s : State} {m : MethodId} {args : Array Value} {below : List Frame} {meth : Method} {c : Code} {E : Ev} {A : Nat → Prop} {ad : Nat → Nat} {r : Int32} {x' : St} (C0 : Cx E A RMO bb_MO_likely 7 (some .int) p s m args meth c) (hap : Ap ad ixM A)  {x : St} {v0 : Nat} {v1 : Int32} {v2 : Int32} (ho_v0 : isO ixM v0 6) (hf : ff_MO_likely x v0 v1 v2 = some (r, x')) {H : Heap} {locs : List Loc} {ls : Array Slot} (hP : Wd E ad ixM x H) (hS : va_S A s.heap H locs) (hl : lv_has ls 7 [(0, .ref (ad v0)), (1, .int v1), (2, .int v2)]) : W p l e rm_MO_likely s m args below meth c H locs 0 0 (MQ below (QX E ad ixM A (some (.int r)) x') args s 0 0 A) (F0 m 0 ls []) := by
  obtain ⟨hx, hb, hml, hr, hown, hts, hlk, hK⟩ := id C0
  have hf : bnd (ff_MO_in x v1 0 5) (fun r_1 x_2 => (if r_1 = 0 then bnd (ff_MO_bad x_2 v0) (fun r_5 x_6 => some (r_5, x_6)) else bnd (ff_MO_in x_2 v2 0 2) (fun r_8 x_9 => (if r_8 = 0 then bnd (ff_MO_bad x_9 v0) (fun r_20 x_21 => some (r_20, x_21)) else ff_MO_likely_34 FU x_9 v0 v1 v2 0 (-1) (-1) 0)))) = some (r, x') := hf
  refine lv_iload_n hx hb dd_MO_likely_0 rfl (lv_at hl 1 rfl) ?_
  refine lv_iconst (v := 0) hx hb dd_MO_likely_1 (by decide) ?_
  refine lv_iconst (v := 5) hx hb dd_MO_likely_2 (by decide) ?_
  obtain ⟨r_1, x_2, c_3, hf⟩ := of_bnd hf
  refine cl_MO_64 C0 hap  c_3 hP hS ⟨Nat.le_of_ble_eq_true rfl, Nat.le_of_ble_eq_true rfl⟩ hl.1 (Nat.le_of_ble_eq_true rfl) dd_MO_likely_3 ⟨Nat.le_refl _, Nat.le_refl _⟩ (fun H locs hP hS => ?_)
  refine lv_if_eq (tgt := 18) hx hb dd_MO_likely_6 (by decide) (fun h_4 => ?_) (fun h_4 => ?_)
  · have hf := (if_pos h_4).symm.trans hf
    refine lv_aload_n hx hb dd_MO_likely_18 rfl (lv_at hl 0 rfl) ?_
    obtain ⟨r_5, x_6, c_7, hf⟩ := of_bnd hf
    refine cl_MO_72 C0 hap ho_v0 c_7 hP hS ⟨Nat.le_of_ble_eq_true rfl, Nat.le_of_ble_eq_true rfl⟩ hl.1 (Nat.le_of_ble_eq_true rfl) dd_MO_likely_19 ⟨Nat.le_refl _, Nat.le_refl _⟩ (fun H locs hP hS => ?_)
    exact rrI C0 hP hS dd_MO_likely_22 hf
  · have hf := (if_neg h_4).symm.trans hf
    refine lv_iload_n hx hb dd_MO_likely_9 rfl (lv_at hl 2 rfl) ?_
    refine lv_iconst (v := 0) hx hb dd_MO_likely_10 (by decide) ?_
    refine lv_iconst (v := 2) hx hb dd_MO_likely_11 (by decide) ?_
    obtain ⟨r_8, x_9, c_10, hf⟩ := of_bnd hf
    refine cl_MO_64 C0 hap  c_10 hP hS ⟨Nat.le_of_ble_eq_true rfl, Nat.le_of_ble_eq_true rfl⟩ hl.1 (Nat.le_of_ble_eq_true rfl) dd_MO_likely_12 ⟨Nat.le_refl _, Nat.le_refl _⟩ (fun H locs hP hS => ?_)
    refine lv_if_ne (tgt := 23) hx hb dd_MO_likely_15 (by decide) (fun h_11 => ?_) (fun h_11 => ?_)
    · have hf := (if_neg h_11).symm.trans hf
      refine lv_iconst (v := 0) hx hb dd_MO_likely_23 (by decide) ?_
      refine lv_istore_n (lv' := [(3, .int 0), (0, .ref (ad v0)), (1, .int v1), (2, .int v2)]) hx hb dd_MO_likely_24 rfl hl (by decide) rfl (fun ls hl => ?_)
      refine lv_iconst (v := -1) hx hb dd_MO_likely_25 (by decide) ?_
      refine lv_istore (lv' := [(4, .int (-1)), (3, .int 0), (0, .ref (ad v0)), (1, .int v1), (2, .int v2)]) hx hb dd_MO_likely_26 hl (by decide) rfl (fun ls hl => ?_)
      refine lv_iconst (v := -1) hx hb dd_MO_likely_28 (by decide) ?_
      refine lv_istore (lv' := [(5, .int (-1)), (4, .int (-1)), (3, .int 0), (0, .ref (ad v0)), (1, .int v1), (2, .int v2)]) hx hb dd_MO_likely_29 hl (by decide) rfl (fun ls hl => ?_)
      refine lv_iconst (v := 0) hx hb dd_MO_likely_31 (by decide) ?_
      refine lv_istore (lv' := [(6, .int 0), (5, .int (-1)), (4, .int (-1)), (3, .int 0), (0, .ref (ad v0)), (1, .int v1), (2, .int v2)]) hx hb dd_MO_likely_32 hl (by decide) rfl (fun ls hl => ?_)
      exact ww_MO_likely_34 C0 hap  FU x_9 v0 v1 v2 0 (-1) (-1) 0 ho_v0 hf _ _ _ hP hS (lv_sub hl [4, 5, 6, 3, 2, 1, 0] rfl)
    · have hf := (if_pos h_11).symm.trans hf
      refine lv_aload_n hx hb dd_MO_likely_18 rfl (lv_at hl 0 rfl) ?_
      obtain ⟨r_20, x_21, c_22, hf⟩ := of_bnd hf
      refine cl_MO_72 C0 hap ho_v0 c_22 hP hS ⟨Nat.le_of_ble_eq_true rfl, Nat.le_of_ble_eq_true rfl⟩ hl.1 (Nat.le_of_ble_eq_true rfl) dd_MO_likely_19 ⟨Nat.le_refl _, Nat.le_refl _⟩ (fun H locs hP hS => ?_)
      exact rrI C0 hP hS dd_MO_likely_22 hf
theorem cc_MO_likely {l : Launch} {E : Ev} {A : Nat → Prop} {ad : Nat → Nat} (hap : Ap ad ixM A) {x x' : St} {v0 : Nat} {v1 : Int32} {v2 : Int32} {r : Int32} (ho_v0 : isO ixM v0 6) (hf : ff_MO_likely x v0 v1 v2 = some (r, x')) : Met l yy_MO_likely (Cond.code yy_MO_likely bb_MO_likely 7 (some .int) :: gtb) rm_MO_likely (va_Pc [.ref (ad v0), .int v1, .int v2] (PB E A ad ixM x)) (QX E ad ixM A (some (.int r)) x') 0 0 A := by
  exact enter (by decide) (Nat.le_of_ble_eq_true rfl) (fun p e s m below meth c ls C0 hP hS hl => ww_MO_likely C0 hap ho_v0 hf hP hS hl)
abbrev rm_MO_odds : Room := { frames := 5, cells := 0, slots := 0, locals := 113 }
theorem dd_MO_odds_0 : decode bb_MO_odds 0 = .ok (.aload_n 0, 1) := by decide +kernel
theorem dd_MO_odds_1 : decode bb_MO_odds 1 = .ok (.iload_n 1, 1) := by decide +kernel
theorem dd_MO_odds_2 : decode bb_MO_odds 2 = .ok (.invokevirtual 94, 3) := by decide +kernel
theorem dd_MO_odds_5 : decode bb_MO_odds 5 = .ok (.ifCond .eq 46, 3) := by decide +kernel
theorem dd_MO_odds_8 : decode bb_MO_odds 8 = .ok (.iload_n 2, 1) := by decide +kernel
theorem dd_MO_odds_9 : decode bb_MO_odds 9 = .ok (.iconst 0, 1) := by decide +kernel
theorem dd_MO_odds_10 : decode bb_MO_odds 10 = .ok (.bipush 99, 2) := by decide +kernel
theorem dd_MO_odds_12 : decode bb_MO_odds 12 = .ok (.invokestatic 64, 3) := by decide +kernel
theorem dd_MO_odds_15 : decode bb_MO_odds 15 = .ok (.ifCond .eq 36, 3) := by decide +kernel
theorem dd_MO_odds_18 : decode bb_MO_odds 18 = .ok (.iload_n 3, 1) := by decide +kernel
theorem dd_MO_odds_19 : decode bb_MO_odds 19 = .ok (.iconst 0, 1) := by decide +kernel
theorem dd_MO_odds_20 : decode bb_MO_odds 20 = .ok (.bipush 15, 2) := by decide +kernel
theorem dd_MO_odds_22 : decode bb_MO_odds 22 = .ok (.invokestatic 64, 3) := by decide +kernel
theorem dd_MO_odds_25 : decode bb_MO_odds 25 = .ok (.ifCond .eq 26, 3) := by decide +kernel
theorem dd_MO_odds_28 : decode bb_MO_odds 28 = .ok (.iload 4, 2) := by decide +kernel
theorem dd_MO_odds_30 : decode bb_MO_odds 30 = .ok (.iconst 0, 1) := by decide +kernel
theorem dd_MO_odds_31 : decode bb_MO_odds 31 = .ok (.bipush 10, 2) := by decide +kernel
theorem dd_MO_odds_33 : decode bb_MO_odds 33 = .ok (.invokestatic 64, 3) := by decide +kernel
theorem dd_MO_odds_36 : decode bb_MO_odds 36 = .ok (.ifCond .eq 15, 3) := by decide +kernel
theorem dd_MO_odds_39 : decode bb_MO_odds 39 = .ok (.aload_n 0, 1) := by decide +kernel
theorem dd_MO_odds_40 : decode bb_MO_odds 40 = .ok (.iconst 5, 1) := by decide +kernel
theorem dd_MO_odds_41 : decode bb_MO_odds 41 = .ok (.invokevirtual 60, 3) := by decide +kernel
theorem dd_MO_odds_44 : decode bb_MO_odds 44 = .ok (.iload_n 3, 1) := by decide +kernel
theorem dd_MO_odds_45 : decode bb_MO_odds 45 = .ok (.iadd, 1) := by decide +kernel
theorem dd_MO_odds_46 : decode bb_MO_odds 46 = .ok (.bipush 99, 2) := by decide +kernel
theorem dd_MO_odds_48 : decode bb_MO_odds 48 = .ok (.if_icmp .le 8, 3) := by decide +kernel
theorem dd_MO_odds_51 : decode bb_MO_odds 51 = .ok (.aload_n 0, 1) := by decide +kernel
theorem dd_MO_odds_52 : decode bb_MO_odds 52 = .ok (.invokevirtual 72, 3) := by decide +kernel
theorem dd_MO_odds_55 : decode bb_MO_odds 55 = .ok (.ireturn, 1) := by decide +kernel
theorem dd_MO_odds_56 : decode bb_MO_odds 56 = .ok (.aload_n 0, 1) := by decide +kernel
theorem dd_MO_odds_57 : decode bb_MO_odds 57 = .ok (.iconst (-1), 1) := by decide +kernel
theorem dd_MO_odds_58 : decode bb_MO_odds 58 = .ok (.invokevirtual 189, 3) := by decide +kernel
theorem dd_MO_odds_61 : decode bb_MO_odds 61 = .ok (.iconst 0, 1) := by decide +kernel
theorem dd_MO_odds_62 : decode bb_MO_odds 62 = .ok (.istore 5, 2) := by decide +kernel
theorem dd_MO_odds_64 : decode bb_MO_odds 64 = .ok (.iload 5, 2) := by decide +kernel
theorem dd_MO_odds_66 : decode bb_MO_odds 66 = .ok (.bipush 99, 2) := by decide +kernel
theorem dd_MO_odds_68 : decode bb_MO_odds 68 = .ok (.if_icmp .gt 41, 3) := by decide +kernel
theorem dd_MO_odds_71 : decode bb_MO_odds 71 = .ok (.aload_n 0, 1) := by decide +kernel
theorem dd_MO_odds_72 : decode bb_MO_odds 72 = .ok (.getfield 43, 3) := by decide +kernel
theorem dd_MO_odds_75 : decode bb_MO_odds 75 = .ok (.iload 5, 2) := by decide +kernel
theorem dd_MO_odds_77 : decode bb_MO_odds 77 = .ok (.iload 5, 2) := by decide +kernel
theorem dd_MO_odds_79 : decode bb_MO_odds 79 = .ok (.aload_n 0, 1) := by decide +kernel
theorem dd_MO_odds_80 : decode bb_MO_odds 80 = .ok (.getfield 28, 3) := by decide +kernel
theorem dd_MO_odds_83 : decode bb_MO_odds 83 = .ok (.bipush 100, 2) := by decide +kernel
theorem dd_MO_odds_85 : decode bb_MO_odds 85 = .ok (.iload_n 1, 1) := by decide +kernel
theorem dd_MO_odds_86 : decode bb_MO_odds 86 = .ok (.imul, 1) := by decide +kernel
theorem dd_MO_odds_87 : decode bb_MO_odds 87 = .ok (.aload_n 0, 1) := by decide +kernel
theorem dd_MO_odds_88 : decode bb_MO_odds 88 = .ok (.iconst 5, 1) := by decide +kernel
theorem dd_MO_odds_89 : decode bb_MO_odds 89 = .ok (.invokevirtual 60, 3) := by decide +kernel
theorem dd_MO_odds_92 : decode bb_MO_odds 92 = .ok (.iadd, 1) := by decide +kernel
theorem dd_MO_odds_93 : decode bb_MO_odds 93 = .ok (.iaload, 1) := by decide +kernel
theorem dd_MO_odds_94 : decode bb_MO_odds 94 = .ok (.if_icmp .ne 7, 3) := by decide +kernel
theorem dd_MO_odds_97 : decode bb_MO_odds 97 = .ok (.lconst 1, 1) := by decide +kernel
theorem dd_MO_odds_98 : decode bb_MO_odds 98 = .ok (.goto 4, 3) := by decide +kernel
theorem dd_MO_odds_101 : decode bb_MO_odds 101 = .ok (.lconst 0, 1) := by decide +kernel
theorem dd_MO_odds_102 : decode bb_MO_odds 102 = .ok (.lastore, 1) := by decide +kernel
theorem dd_MO_odds_103 : decode bb_MO_odds 103 = .ok (.iinc 5 1, 3) := by decide +kernel
theorem dd_MO_odds_106 : decode bb_MO_odds 106 = .ok (.goto (-42), 3) := by decide +kernel
theorem dd_MO_odds_109 : decode bb_MO_odds 109 = .ok (.lconst 1, 1) := by decide +kernel
theorem dd_MO_odds_110 : decode bb_MO_odds 110 = .ok (.lstore 5, 2) := by decide +kernel
theorem dd_MO_odds_112 : decode bb_MO_odds 112 = .ok (.aload_n 0, 1) := by decide +kernel
theorem dd_MO_odds_113 : decode bb_MO_odds 113 = .ok (.iconst 5, 1) := by decide +kernel
theorem dd_MO_odds_114 : decode bb_MO_odds 114 = .ok (.invokevirtual 60, 3) := by decide +kernel
theorem dd_MO_odds_117 : decode bb_MO_odds 117 = .ok (.iconst 1, 1) := by decide +kernel
theorem dd_MO_odds_118 : decode bb_MO_odds 118 = .ok (.iadd, 1) := by decide +kernel
theorem dd_MO_odds_119 : decode bb_MO_odds 119 = .ok (.istore 7, 2) := by decide +kernel
theorem dd_MO_odds_121 : decode bb_MO_odds 121 = .ok (.iload 7, 2) := by decide +kernel
theorem dd_MO_odds_123 : decode bb_MO_odds 123 = .ok (.aload_n 0, 1) := by decide +kernel
theorem dd_MO_odds_124 : decode bb_MO_odds 124 = .ok (.iconst 5, 1) := by decide +kernel
theorem dd_MO_odds_125 : decode bb_MO_odds 125 = .ok (.invokevirtual 60, 3) := by decide +kernel
theorem dd_MO_odds_128 : decode bb_MO_odds 128 = .ok (.iload_n 3, 1) := by decide +kernel
theorem dd_MO_odds_129 : decode bb_MO_odds 129 = .ok (.iadd, 1) := by decide +kernel
theorem dd_MO_odds_130 : decode bb_MO_odds 130 = .ok (.if_icmp .gt 145, 3) := by decide +kernel
theorem dd_MO_odds_133 : decode bb_MO_odds 133 = .ok (.iconst 0, 1) := by decide +kernel
theorem dd_MO_odds_134 : decode bb_MO_odds 134 = .ok (.istore 8, 2) := by decide +kernel
theorem dd_MO_odds_136 : decode bb_MO_odds 136 = .ok (.iload 8, 2) := by decide +kernel
theorem dd_MO_odds_138 : decode bb_MO_odds 138 = .ok (.bipush 99, 2) := by decide +kernel
theorem dd_MO_odds_140 : decode bb_MO_odds 140 = .ok (.if_icmp .gt 17, 3) := by decide +kernel
theorem dd_MO_odds_143 : decode bb_MO_odds 143 = .ok (.aload_n 0, 1) := by decide +kernel
theorem dd_MO_odds_144 : decode bb_MO_odds 144 = .ok (.getfield 47, 3) := by decide +kernel
theorem dd_MO_odds_147 : decode bb_MO_odds 147 = .ok (.iload 8, 2) := by decide +kernel
theorem dd_MO_odds_149 : decode bb_MO_odds 149 = .ok (.lconst 0, 1) := by decide +kernel
theorem dd_MO_odds_150 : decode bb_MO_odds 150 = .ok (.lastore, 1) := by decide +kernel
theorem dd_MO_odds_151 : decode bb_MO_odds 151 = .ok (.iinc 8 1, 3) := by decide +kernel
theorem dd_MO_odds_154 : decode bb_MO_odds 154 = .ok (.goto (-18), 3) := by decide +kernel
theorem dd_MO_odds_157 : decode bb_MO_odds 157 = .ok (.iconst 0, 1) := by decide +kernel
theorem dd_MO_odds_158 : decode bb_MO_odds 158 = .ok (.istore 8, 2) := by decide +kernel
theorem dd_MO_odds_160 : decode bb_MO_odds 160 = .ok (.iload 8, 2) := by decide +kernel
theorem dd_MO_odds_162 : decode bb_MO_odds 162 = .ok (.bipush 99, 2) := by decide +kernel
theorem dd_MO_odds_164 : decode bb_MO_odds 164 = .ok (.if_icmp .gt 67, 3) := by decide +kernel
theorem dd_MO_odds_167 : decode bb_MO_odds 167 = .ok (.aload_n 0, 1) := by decide +kernel
theorem dd_MO_odds_168 : decode bb_MO_odds 168 = .ok (.iload_n 1, 1) := by decide +kernel
theorem dd_MO_odds_169 : decode bb_MO_odds 169 = .ok (.iload 8, 2) := by decide +kernel
theorem dd_MO_odds_171 : decode bb_MO_odds 171 = .ok (.iload 7, 2) := by decide +kernel
theorem dd_MO_odds_173 : decode bb_MO_odds 173 = .ok (.invokevirtual 186, 3) := by decide +kernel
theorem dd_MO_odds_176 : decode bb_MO_odds 176 = .ok (.istore 9, 2) := by decide +kernel
theorem dd_MO_odds_178 : decode bb_MO_odds 178 = .ok (.aload_n 0, 1) := by decide +kernel
theorem dd_MO_odds_179 : decode bb_MO_odds 179 = .ok (.getfield 47, 3) := by decide +kernel
theorem dd_MO_odds_182 : decode bb_MO_odds 182 = .ok (.iload 9, 2) := by decide +kernel
theorem dd_MO_odds_184 : decode bb_MO_odds 184 = .ok (.dup2, 1) := by decide +kernel
theorem dd_MO_odds_185 : decode bb_MO_odds 185 = .ok (.laload, 1) := by decide +kernel
theorem dd_MO_odds_186 : decode bb_MO_odds 186 = .ok (.aload_n 0, 1) := by decide +kernel
theorem dd_MO_odds_187 : decode bb_MO_odds 187 = .ok (.getfield 43, 3) := by decide +kernel
theorem dd_MO_odds_190 : decode bb_MO_odds 190 = .ok (.iload 8, 2) := by decide +kernel
theorem dd_MO_odds_192 : decode bb_MO_odds 192 = .ok (.laload, 1) := by decide +kernel
theorem dd_MO_odds_193 : decode bb_MO_odds 193 = .ok (.bipush 10, 2) := by decide +kernel
theorem dd_MO_odds_195 : decode bb_MO_odds 195 = .ok (.iload 4, 2) := by decide +kernel
theorem dd_MO_odds_197 : decode bb_MO_odds 197 = .ok (.isub, 1) := by decide +kernel
theorem dd_MO_odds_198 : decode bb_MO_odds 198 = .ok (.i2l, 1) := by decide +kernel
theorem dd_MO_odds_199 : decode bb_MO_odds 199 = .ok (.lmul, 1) := by decide +kernel
theorem dd_MO_odds_200 : decode bb_MO_odds 200 = .ok (.ladd, 1) := by decide +kernel
theorem dd_MO_odds_201 : decode bb_MO_odds 201 = .ok (.lastore, 1) := by decide +kernel
theorem dd_MO_odds_202 : decode bb_MO_odds 202 = .ok (.aload_n 0, 1) := by decide +kernel
theorem dd_MO_odds_203 : decode bb_MO_odds 203 = .ok (.getfield 47, 3) := by decide +kernel
theorem dd_MO_odds_206 : decode bb_MO_odds 206 = .ok (.iload 9, 2) := by decide +kernel
theorem dd_MO_odds_208 : decode bb_MO_odds 208 = .ok (.iconst 2, 1) := by decide +kernel
theorem dd_MO_odds_209 : decode bb_MO_odds 209 = .ok (.idiv, 1) := by decide +kernel
theorem dd_MO_odds_210 : decode bb_MO_odds 210 = .ok (.dup2, 1) := by decide +kernel
theorem dd_MO_odds_211 : decode bb_MO_odds 211 = .ok (.laload, 1) := by decide +kernel
theorem dd_MO_odds_212 : decode bb_MO_odds 212 = .ok (.aload_n 0, 1) := by decide +kernel
theorem dd_MO_odds_213 : decode bb_MO_odds 213 = .ok (.getfield 43, 3) := by decide +kernel
theorem dd_MO_odds_216 : decode bb_MO_odds 216 = .ok (.iload 8, 2) := by decide +kernel
theorem dd_MO_odds_218 : decode bb_MO_odds 218 = .ok (.laload, 1) := by decide +kernel
theorem dd_MO_odds_219 : decode bb_MO_odds 219 = .ok (.iload 4, 2) := by decide +kernel
theorem dd_MO_odds_221 : decode bb_MO_odds 221 = .ok (.i2l, 1) := by decide +kernel
theorem dd_MO_odds_222 : decode bb_MO_odds 222 = .ok (.lmul, 1) := by decide +kernel
theorem dd_MO_odds_223 : decode bb_MO_odds 223 = .ok (.ladd, 1) := by decide +kernel
theorem dd_MO_odds_224 : decode bb_MO_odds 224 = .ok (.lastore, 1) := by decide +kernel
theorem dd_MO_odds_225 : decode bb_MO_odds 225 = .ok (.iinc 8 1, 3) := by decide +kernel
theorem dd_MO_odds_228 : decode bb_MO_odds 228 = .ok (.goto (-68), 3) := by decide +kernel
theorem dd_MO_odds_231 : decode bb_MO_odds 231 = .ok (.iconst 0, 1) := by decide +kernel
theorem dd_MO_odds_232 : decode bb_MO_odds 232 = .ok (.istore 8, 2) := by decide +kernel
theorem dd_MO_odds_234 : decode bb_MO_odds 234 = .ok (.iload 8, 2) := by decide +kernel
theorem dd_MO_odds_236 : decode bb_MO_odds 236 = .ok (.bipush 99, 2) := by decide +kernel
theorem dd_MO_odds_238 : decode bb_MO_odds 238 = .ok (.if_icmp .gt 23, 3) := by decide +kernel
theorem dd_MO_odds_241 : decode bb_MO_odds 241 = .ok (.aload_n 0, 1) := by decide +kernel
theorem dd_MO_odds_242 : decode bb_MO_odds 242 = .ok (.getfield 43, 3) := by decide +kernel
theorem dd_MO_odds_245 : decode bb_MO_odds 245 = .ok (.iload 8, 2) := by decide +kernel
theorem dd_MO_odds_247 : decode bb_MO_odds 247 = .ok (.aload_n 0, 1) := by decide +kernel
theorem dd_MO_odds_248 : decode bb_MO_odds 248 = .ok (.getfield 47, 3) := by decide +kernel
theorem dd_MO_odds_251 : decode bb_MO_odds 251 = .ok (.iload 8, 2) := by decide +kernel
theorem dd_MO_odds_253 : decode bb_MO_odds 253 = .ok (.laload, 1) := by decide +kernel
theorem dd_MO_odds_254 : decode bb_MO_odds 254 = .ok (.lastore, 1) := by decide +kernel
theorem dd_MO_odds_255 : decode bb_MO_odds 255 = .ok (.iinc 8 1, 3) := by decide +kernel
theorem dd_MO_odds_258 : decode bb_MO_odds 258 = .ok (.goto (-24), 3) := by decide +kernel
theorem dd_MO_odds_261 : decode bb_MO_odds 261 = .ok (.lload 5, 2) := by decide +kernel
theorem dd_MO_odds_263 : decode bb_MO_odds 263 = .ok (.ldc2_w 222, 3) := by decide +kernel
theorem dd_MO_odds_266 : decode bb_MO_odds 266 = .ok (.lmul, 1) := by decide +kernel
theorem dd_MO_odds_267 : decode bb_MO_odds 267 = .ok (.lstore 5, 2) := by decide +kernel
theorem dd_MO_odds_269 : decode bb_MO_odds 269 = .ok (.iinc 7 1, 3) := by decide +kernel
theorem dd_MO_odds_272 : decode bb_MO_odds 272 = .ok (.goto (-151), 3) := by decide +kernel
theorem dd_MO_odds_275 : decode bb_MO_odds 275 = .ok (.lconst 0, 1) := by decide +kernel
theorem dd_MO_odds_276 : decode bb_MO_odds 276 = .ok (.lstore 7, 2) := by decide +kernel
theorem dd_MO_odds_278 : decode bb_MO_odds 278 = .ok (.iload_n 2, 1) := by decide +kernel
theorem dd_MO_odds_279 : decode bb_MO_odds 279 = .ok (.istore 9, 2) := by decide +kernel
theorem dd_MO_odds_281 : decode bb_MO_odds 281 = .ok (.iload 9, 2) := by decide +kernel
theorem dd_MO_odds_283 : decode bb_MO_odds 283 = .ok (.bipush 99, 2) := by decide +kernel
theorem dd_MO_odds_285 : decode bb_MO_odds 285 = .ok (.if_icmp .gt 21, 3) := by decide +kernel
theorem dd_MO_odds_288 : decode bb_MO_odds 288 = .ok (.lload 7, 2) := by decide +kernel
theorem dd_MO_odds_290 : decode bb_MO_odds 290 = .ok (.aload_n 0, 1) := by decide +kernel
theorem dd_MO_odds_291 : decode bb_MO_odds 291 = .ok (.getfield 43, 3) := by decide +kernel
theorem dd_MO_odds_294 : decode bb_MO_odds 294 = .ok (.iload 9, 2) := by decide +kernel
theorem dd_MO_odds_296 : decode bb_MO_odds 296 = .ok (.laload, 1) := by decide +kernel
theorem dd_MO_odds_297 : decode bb_MO_odds 297 = .ok (.ladd, 1) := by decide +kernel
theorem dd_MO_odds_298 : decode bb_MO_odds 298 = .ok (.lstore 7, 2) := by decide +kernel
theorem dd_MO_odds_300 : decode bb_MO_odds 300 = .ok (.iinc 9 1, 3) := by decide +kernel
theorem dd_MO_odds_303 : decode bb_MO_odds 303 = .ok (.goto (-22), 3) := by decide +kernel
theorem dd_MO_odds_306 : decode bb_MO_odds 306 = .ok (.lload 7, 2) := by decide +kernel
theorem dd_MO_odds_308 : decode bb_MO_odds 308 = .ok (.lstore 9, 2) := by decide +kernel
theorem dd_MO_odds_310 : decode bb_MO_odds 310 = .ok (.lload 5, 2) := by decide +kernel
theorem dd_MO_odds_312 : decode bb_MO_odds 312 = .ok (.lstore 11, 2) := by decide +kernel
theorem dd_MO_odds_314 : decode bb_MO_odds 314 = .ok (.lload 11, 2) := by decide +kernel
theorem dd_MO_odds_316 : decode bb_MO_odds 316 = .ok (.lconst 0, 1) := by decide +kernel
theorem dd_MO_odds_317 : decode bb_MO_odds 317 = .ok (.lcmp, 1) := by decide +kernel
theorem dd_MO_odds_318 : decode bb_MO_odds 318 = .ok (.ifCond .eq 21, 3) := by decide +kernel
theorem dd_MO_odds_321 : decode bb_MO_odds 321 = .ok (.lload 9, 2) := by decide +kernel
theorem dd_MO_odds_323 : decode bb_MO_odds 323 = .ok (.lload 11, 2) := by decide +kernel
theorem dd_MO_odds_325 : decode bb_MO_odds 325 = .ok (.lrem, 1) := by decide +kernel
theorem dd_MO_odds_326 : decode bb_MO_odds 326 = .ok (.lstore 13, 2) := by decide +kernel
theorem dd_MO_odds_328 : decode bb_MO_odds 328 = .ok (.lload 11, 2) := by decide +kernel
theorem dd_MO_odds_330 : decode bb_MO_odds 330 = .ok (.lstore 9, 2) := by decide +kernel
theorem dd_MO_odds_332 : decode bb_MO_odds 332 = .ok (.lload 13, 2) := by decide +kernel
theorem dd_MO_odds_334 : decode bb_MO_odds 334 = .ok (.lstore 11, 2) := by decide +kernel
theorem dd_MO_odds_336 : decode bb_MO_odds 336 = .ok (.goto (-22), 3) := by decide +kernel
theorem dd_MO_odds_339 : decode bb_MO_odds 339 = .ok (.aload_n 0, 1) := by decide +kernel
theorem dd_MO_odds_340 : decode bb_MO_odds 340 = .ok (.lload 7, 2) := by decide +kernel
theorem dd_MO_odds_342 : decode bb_MO_odds 342 = .ok (.lload 9, 2) := by decide +kernel
theorem dd_MO_odds_344 : decode bb_MO_odds 344 = .ok (.ldiv, 1) := by decide +kernel
theorem dd_MO_odds_345 : decode bb_MO_odds 345 = .ok (.putfield 224, 3) := by decide +kernel
theorem dd_MO_odds_348 : decode bb_MO_odds 348 = .ok (.aload_n 0, 1) := by decide +kernel
theorem dd_MO_odds_349 : decode bb_MO_odds 349 = .ok (.lload 5, 2) := by decide +kernel
theorem dd_MO_odds_351 : decode bb_MO_odds 351 = .ok (.lload 9, 2) := by decide +kernel
theorem dd_MO_odds_353 : decode bb_MO_odds 353 = .ok (.ldiv, 1) := by decide +kernel
theorem dd_MO_odds_354 : decode bb_MO_odds 354 = .ok (.putfield 53, 3) := by decide +kernel
theorem dd_MO_odds_357 : decode bb_MO_odds 357 = .ok (.iconst 1, 1) := by decide +kernel
theorem dd_MO_odds_358 : decode bb_MO_odds 358 = .ok (.ireturn, 1) := by decide +kernel
def ff_MO_odds_339  (x : St) (v0 : Nat) (v5 : Int64) (v7 : Int64) (v9 : Int64) : Option (Int32 × St) := (if ¬ v9 = 0 then st (sl x v0 4 (v7 / v9)) (fun x_47 => (if ¬ v9 = 0 then st (sl x_47 v0 5 (v5 / v9)) (fun x_49 => some (1, x_49)) else none)) else none)
def ff_MO_odds_314  : Nat → St → Nat → Int64 → Int64 → Int64 → Int64 → Option (Int32 × St)
  | 0, _, _, _, _, _, _ => none
  | n + 1, x, v0, v5, v7, v9, v11 => (if (lg_cmp v11 0) = 0 then ff_MO_odds_339 x v0 v5 v7 v9 else (if ¬ v11 = 0 then ff_MO_odds_314 n x v0 v5 v7 v11 (v9 - v9 / v11 * v11) else none))
def ff_MO_odds_306  (x : St) (v0 : Nat) (v5 : Int64) (v7 : Int64) : Option (Int32 × St) := ff_MO_odds_314 FU x v0 v5 v7 v7 v5
def ff_MO_odds_281  : Nat → St → Nat → Int64 → Int64 → Int32 → Option (Int32 × St)
  | 0, _, _, _, _, _ => none
  | n + 1, x, v0, v5, v7, v9 => (if 99 < v9 then ff_MO_odds_306 x v0 v5 v7 else (if ixb v9 (ln (rf v0 19)) = true then lj (v7 + (gl x (rf v0 19) (ix v9))) (fun u_52 => ff_MO_odds_281 n x v0 v5 u_52 (v9 + 1)) else none))
def ff_MO_odds_275  (x : St) (v0 : Nat) (v2 : Int32) (v5 : Int64) : Option (Int32 × St) := ff_MO_odds_281 FU x v0 v5 0 v2
def ff_MO_odds_261 (k_121 : St → Nat → Int32 → Int32 → Int32 → Int32 → Int64 → Int32 → Option (Int32 × St)) (x : St) (v0 : Nat) (v1 : Int32) (v2 : Int32) (v3 : Int32) (v4 : Int32) (v5 : Int64) (v7 : Int32) : Option (Int32 × St) := k_121 x v0 v1 v2 v3 v4 (v5 * 10) (v7 + 1)
def ff_MO_odds_234 (k_121 : St → Nat → Int32 → Int32 → Int32 → Int32 → Int64 → Int32 → Option (Int32 × St)) : Nat → St → Nat → Int32 → Int32 → Int32 → Int32 → Int64 → Int32 → Int32 → Option (Int32 × St)
  | 0, _, _, _, _, _, _, _, _, _ => none
  | n + 1, x, v0, v1, v2, v3, v4, v5, v7, v8 => (if 99 < v8 then ff_MO_odds_261 k_121 x v0 v1 v2 v3 v4 v5 v7 else (if ixb v8 (ln (rf v0 20)) = true then (if ixb v8 (ln (rf v0 19)) = true then st (sl x (rf v0 19) (ix v8) (gl x (rf v0 20) (ix v8))) (fun x_58 => ff_MO_odds_234 k_121 n x_58 v0 v1 v2 v3 v4 v5 v7 (v8 + 1)) else none) else none))
def ff_MO_odds_160 (k_121 : St → Nat → Int32 → Int32 → Int32 → Int32 → Int64 → Int32 → Option (Int32 × St)) : Nat → St → Nat → Int32 → Int32 → Int32 → Int32 → Int64 → Int32 → Int32 → Option (Int32 × St)
  | 0, _, _, _, _, _, _, _, _, _ => none
  | n + 1, x, v0, v1, v2, v3, v4, v5, v7, v8 => (if 99 < v8 then ff_MO_odds_234 k_121 FU x v0 v1 v2 v3 v4 v5 v7 0 else bnd (ff_MO_onDay x v0 v1 v8 v7) (fun r_59 x_60 => (if ixb r_59 (ln (rf v0 20)) = true then (if ixb v8 (ln (rf v0 19)) = true then (if ixb r_59 (ln (rf v0 20)) = true then st (sl x_60 (rf v0 20) (ix r_59) ((gl x_60 (rf v0 20) (ix r_59)) + ((gl x_60 (rf v0 19) (ix v8)) * ((10 - v4).toInt64)))) (fun x_65 => (if ixb (r_59 / 2) (ln (rf v0 20)) = true then (if ixb v8 (ln (rf v0 19)) = true then (if ixb (r_59 / 2) (ln (rf v0 20)) = true then st (sl x_65 (rf v0 20) (ix (r_59 / 2)) ((gl x_65 (rf v0 20) (ix (r_59 / 2))) + ((gl x_65 (rf v0 19) (ix v8)) * (v4.toInt64)))) (fun x_69 => ff_MO_odds_160 k_121 n x_69 v0 v1 v2 v3 v4 v5 v7 (v8 + 1)) else none) else none) else none)) else none) else none) else none)))
def ff_MO_odds_136 (k_121 : St → Nat → Int32 → Int32 → Int32 → Int32 → Int64 → Int32 → Option (Int32 × St)) : Nat → St → Nat → Int32 → Int32 → Int32 → Int32 → Int64 → Int32 → Int32 → Option (Int32 × St)
  | 0, _, _, _, _, _, _, _, _, _ => none
  | n + 1, x, v0, v1, v2, v3, v4, v5, v7, v8 => (if 99 < v8 then ff_MO_odds_160 k_121 FU x v0 v1 v2 v3 v4 v5 v7 0 else (if ixb v8 (ln (rf v0 20)) = true then st (sl x (rf v0 20) (ix v8) 0) (fun x_71 => ff_MO_odds_136 k_121 n x_71 v0 v1 v2 v3 v4 v5 v7 (v8 + 1)) else none))
def ff_MO_odds_121  : Nat → St → Nat → Int32 → Int32 → Int32 → Int32 → Int64 → Int32 → Option (Int32 × St)
  | 0, _, _, _, _, _, _, _, _ => none
  | n + 1, x, v0, v1, v2, v3, v4, v5, v7 => bnd (ff_MO_get x v0 5) (fun r_40 x_41 => (if (r_40 + v3) < v7 then ff_MO_odds_275 x_41 v0 v2 v5 else ff_MO_odds_136 (ff_MO_odds_121 n) FU x_41 v0 v1 v2 v3 v4 v5 v7 0))
def ff_MO_odds_109  (x : St) (v0 : Nat) (v1 : Int32) (v2 : Int32) (v3 : Int32) (v4 : Int32) : Option (Int32 × St) := bnd (ff_MO_get x v0 5) (fun r_37 x_38 => ff_MO_odds_121 FU x_38 v0 v1 v2 v3 v4 1 (r_37 + 1))
def ff_MO_odds_64  : Nat → St → Nat → Int32 → Int32 → Int32 → Int32 → Int32 → Option (Int32 × St)
  | 0, _, _, _, _, _, _, _ => none
  | n + 1, x, v0, v1, v2, v3, v4, v5 => (if 99 < v5 then ff_MO_odds_109 x v0 v1 v2 v3 v4 else bnd (ff_MO_get x v0 5) (fun r_72 x_73 => (if ixb ((100 * v1) + r_72) (ln (rf v0 14)) = true then (if v5 = (gi x_73 (rf v0 14) (ix ((100 * v1) + r_72))) then (if ixb v5 (ln (rf v0 19)) = true then st (sl x_73 (rf v0 19) (ix v5) 1) (fun x_80 => ff_MO_odds_64 n x_80 v0 v1 v2 v3 v4 (v5 + 1)) else none) else (if ixb v5 (ln (rf v0 19)) = true then st (sl x_73 (rf v0 19) (ix v5) 0) (fun x_78 => ff_MO_odds_64 n x_78 v0 v1 v2 v3 v4 (v5 + 1)) else none)) else none)))
def ff_MO_odds  (x : St) (v0 : Nat) (v1 : Int32) (v2 : Int32) (v3 : Int32) (v4 : Int32) : Option (Int32 × St) := bnd (ff_MO_isMourner x v0 v1) (fun r_1 x_2 => (if r_1 = 0 then bnd (ff_MO_bad x_2 v0) (fun r_5 x_6 => some (r_5, x_6)) else bnd (ff_MO_in x_2 v2 0 99) (fun r_8 x_9 => (if r_8 = 0 then bnd (ff_MO_bad x_9 v0) (fun r_12 x_13 => some (r_12, x_13)) else bnd (ff_MO_in x_9 v3 0 15) (fun r_15 x_16 => (if r_15 = 0 then bnd (ff_MO_bad x_16 v0) (fun r_19 x_20 => some (r_19, x_20)) else bnd (ff_MO_in x_16 v4 0 10) (fun r_22 x_23 => (if r_22 = 0 then bnd (ff_MO_bad x_23 v0) (fun r_26 x_27 => some (r_26, x_27)) else bnd (ff_MO_get x_23 v0 5) (fun r_29 x_30 => (if (r_29 + v3) ≤ 99 then bnd (ff_MO_findGriefs x_30 v0 (-1)) (fun _ x_34 => ff_MO_odds_64 FU x_34 v0 v1 v2 v3 v4 0) else bnd (ff_MO_bad x_30 v0) (fun r_81 x_82 => some (r_81, x_82))))))))))))
set_option maxHeartbeats 4000000 in
set_option maxRecDepth 100000 in
theorem ww_MO_odds_339 {p : Program} {l : Launch} {e : Env} {s : State} {m : MethodId} {args : Array Value} {below : List Frame} {meth : Method} {c : Code} {E : Ev} {A : Nat → Prop} {ad : Nat → Nat} {r : Int32} {x' : St} (C0 : Cx E A RMO bb_MO_odds 15 (some .int) p s m args meth c) (hap : Ap ad ixM A)  {x : St} {v0 : Nat} {v5 : Int64} {v7 : Int64} {v9 : Int64} (ho_v0 : isO ixM v0 6) (hf : ff_MO_odds_339 x v0 v5 v7 v9 = some (r, x')) {H : Heap} {locs : List Loc} {ls : Array Slot} (hP : Wd E ad ixM x H) (hS : va_S A s.heap H locs) (hl : lv_has ls 15 [(0, .ref (ad v0)), (5, .long v5), (7, .long v7), (9, .long v9)]) : W p l e rm_MO_odds s m args below meth c H locs 0 0 (MQ below (QX E ad ixM A (some (.int r)) x') args s 0 0 A) (F0 m 339 ls []) := by
  obtain ⟨hx, hb, hml, hr, hown, hts, hlk, hK⟩ := id C0
  have hf : (if ¬ v9 = 0 then st (sl x v0 4 (v7 / v9)) (fun x_47 => (if ¬ v9 = 0 then st (sl x_47 v0 5 (v5 / v9)) (fun x_49 => some (1, x_49)) else none)) else none) = some (r, x') := hf
  refine lv_aload_n hx hb dd_MO_odds_339 rfl (lv_at hl 0 rfl) ?_
  refine lv_lload hx hb dd_MO_odds_340 (lv_at hl 2 rfl) ?_
  refine lv_lload hx hb dd_MO_odds_342 (lv_at hl 3 rfl) ?_
  obtain ⟨h_46, hf⟩ := of_ifp hf
  refine lv_ldiv hx hb dd_MO_odds_344 h_46 ?_
  obtain ⟨x_47, hx_47, hf⟩ := of_st hf
  refine pf_MO_224 C0 hap hP hS ho_v0 hx_47 dd_MO_odds_345 (fun H locs hP hS => ?_)
  refine lv_aload_n hx hb dd_MO_odds_348 rfl (lv_at hl 0 rfl) ?_
  refine lv_lload hx hb dd_MO_odds_349 (lv_at hl 1 rfl) ?_
  refine lv_lload hx hb dd_MO_odds_351 (lv_at hl 3 rfl) ?_
  obtain ⟨h_48, hf⟩ := of_ifp hf
  refine lv_ldiv hx hb dd_MO_odds_353 h_48 ?_
  obtain ⟨x_49, hx_49, hf⟩ := of_st hf
  refine pf_MO_53 C0 hap hP hS ho_v0 hx_49 dd_MO_odds_354 (fun H locs hP hS => ?_)
  refine lv_iconst (v := 1) hx hb dd_MO_odds_357 (by decide) ?_
  exact rrI C0 hP hS dd_MO_odds_358 hf
set_option maxHeartbeats 4000000 in
set_option maxRecDepth 100000 in
theorem ww_MO_odds_314 {p : Program} {l : Launch} {e : Env} {s : State} {m : MethodId} {args : Array Value} {below : List Frame} {meth : Method} {c : Code} {E : Ev} {A : Nat → Prop} {ad : Nat → Nat} {r : Int32} {x' : St} (C0 : Cx E A RMO bb_MO_odds 15 (some .int) p s m args meth c) (hap : Ap ad ixM A)  : ∀ (n : Nat), ∀ (x : St) (v0 : Nat) (v5 : Int64) (v7 : Int64) (v9 : Int64) (v11 : Int64), (isO ixM v0 6) → ff_MO_odds_314 n x v0 v5 v7 v9 v11 = some (r, x') → ∀ (H : Heap) (locs : List Loc) (ls : Array Slot), Wd E ad ixM x H → va_S A s.heap H locs → lv_has ls 15 [(0, .ref (ad v0)), (5, .long v5), (7, .long v7), (9, .long v9), (11, .long v11)] → W p l e rm_MO_odds s m args below meth c H locs 0 0 (MQ below (QX E ad ixM A (some (.int r)) x') args s 0 0 A) (F0 m 314 ls []) := by
  obtain ⟨hx, hb, hml, hr, hown, hts, hlk, hK⟩ := id C0
  intro n
  induction n with
  | zero => intro x v0 v5 v7 v9 v11 ho_v0 hf; exact of_no hf
  | succ n ih =>
    intro x v0 v5 v7 v9 v11 ho_v0 hf H locs ls hP hS hl
    have hf : (if (lg_cmp v11 0) = 0 then ff_MO_odds_339 x v0 v5 v7 v9 else (if ¬ v11 = 0 then ff_MO_odds_314 n x v0 v5 v7 v11 (v9 - v9 / v11 * v11) else none)) = some (r, x') := hf
    refine lv_lload hx hb dd_MO_odds_314 (lv_at hl 4 rfl) ?_
    refine lv_lconst (v := 0) hx hb dd_MO_odds_316 (by decide) ?_
    refine W.lcmp hx hb dd_MO_odds_317 ?_
    refine lv_if_eq (tgt := 339) hx hb dd_MO_odds_318 (by decide) (fun h_45 => ?_) (fun h_45 => ?_)
    · have hf := (if_pos h_45).symm.trans hf
      exact ww_MO_odds_339 C0 hap  ho_v0 hf hP hS (lv_sub hl [0, 1, 2, 3] rfl)
    · have hf := (if_neg h_45).symm.trans hf
      refine lv_lload hx hb dd_MO_odds_321 (lv_at hl 3 rfl) ?_
      refine lv_lload hx hb dd_MO_odds_323 (lv_at hl 4 rfl) ?_
      obtain ⟨h_50, hf⟩ := of_ifp hf
      refine lv_lrem hx hb dd_MO_odds_325 h_50 ?_
      refine lv_lstore (lv' := [(13, .long (v9 - v9 / v11 * v11)), (0, .ref (ad v0)), (5, .long v5), (7, .long v7), (9, .long v9), (11, .long v11)]) hx hb dd_MO_odds_326 hl (by decide) rfl (fun ls hl => ?_)
      refine lv_lload hx hb dd_MO_odds_328 (lv_at hl 5 rfl) ?_
      refine lv_lstore (lv' := [(9, .long v11), (13, .long (v9 - v9 / v11 * v11)), (0, .ref (ad v0)), (5, .long v5), (7, .long v7), (11, .long v11)]) hx hb dd_MO_odds_330 hl (by decide) rfl (fun ls hl => ?_)
      refine lv_lload hx hb dd_MO_odds_332 (lv_at hl 1 rfl) ?_
      refine lv_lstore (lv' := [(11, .long (v9 - v9 / v11 * v11)), (9, .long v11), (13, .long (v9 - v9 / v11 * v11)), (0, .ref (ad v0)), (5, .long v5), (7, .long v7)]) hx hb dd_MO_odds_334 hl (by decide) rfl (fun ls hl => ?_)
      refine lv_goto (tgt := 314) hx hb dd_MO_odds_336 (by decide) ?_
      exact ih x v0 v5 v7 v11 (v9 - v9 / v11 * v11) ho_v0 hf _ _ _ hP hS (lv_sub hl [3, 4, 5, 1, 0] rfl)
set_option maxHeartbeats 4000000 in
set_option maxRecDepth 100000 in
theorem ww_MO_odds_306 {p : Program} {l : Launch} {e : Env} {s : State} {m : MethodId} {args : Array Value} {below : List Frame} {meth : Method} {c : Code} {E : Ev} {A : Nat → Prop} {ad : Nat → Nat} {r : Int32} {x' : St} (C0 : Cx E A RMO bb_MO_odds 15 (some .int) p s m args meth c) (hap : Ap ad ixM A)  {x : St} {v0 : Nat} {v5 : Int64} {v7 : Int64} (ho_v0 : isO ixM v0 6) (hf : ff_MO_odds_306 x v0 v5 v7 = some (r, x')) {H : Heap} {locs : List Loc} {ls : Array Slot} (hP : Wd E ad ixM x H) (hS : va_S A s.heap H locs) (hl : lv_has ls 15 [(0, .ref (ad v0)), (5, .long v5), (7, .long v7)]) : W p l e rm_MO_odds s m args below meth c H locs 0 0 (MQ below (QX E ad ixM A (some (.int r)) x') args s 0 0 A) (F0 m 306 ls []) := by
  obtain ⟨hx, hb, hml, hr, hown, hts, hlk, hK⟩ := id C0
  have hf : ff_MO_odds_314 FU x v0 v5 v7 v7 v5 = some (r, x') := hf
  refine lv_lload hx hb dd_MO_odds_306 (lv_at hl 2 rfl) ?_
  refine lv_lstore (lv' := [(9, .long v7), (0, .ref (ad v0)), (5, .long v5), (7, .long v7)]) hx hb dd_MO_odds_308 hl (by decide) rfl (fun ls hl => ?_)
  refine lv_lload hx hb dd_MO_odds_310 (lv_at hl 2 rfl) ?_
  refine lv_lstore (lv' := [(11, .long v5), (9, .long v7), (0, .ref (ad v0)), (5, .long v5), (7, .long v7)]) hx hb dd_MO_odds_312 hl (by decide) rfl (fun ls hl => ?_)
  exact ww_MO_odds_314 C0 hap  FU x v0 v5 v7 v7 v5 ho_v0 hf _ _ _ hP hS (lv_sub hl [2, 3, 4, 1, 0] rfl)
set_option maxHeartbeats 4000000 in
set_option maxRecDepth 100000 in
theorem ww_MO_odds_281 {p : Program} {l : Launch} {e : Env} {s : State} {m : MethodId} {args : Array Value} {below : List Frame} {meth : Method} {c : Code} {E : Ev} {A : Nat → Prop} {ad : Nat → Nat} {r : Int32} {x' : St} (C0 : Cx E A RMO bb_MO_odds 15 (some .int) p s m args meth c) (hap : Ap ad ixM A)  : ∀ (n : Nat), ∀ (x : St) (v0 : Nat) (v5 : Int64) (v7 : Int64) (v9 : Int32), (isO ixM v0 6) → ff_MO_odds_281 n x v0 v5 v7 v9 = some (r, x') → ∀ (H : Heap) (locs : List Loc) (ls : Array Slot), Wd E ad ixM x H → va_S A s.heap H locs → lv_has ls 15 [(0, .ref (ad v0)), (5, .long v5), (7, .long v7), (9, .int v9)] → W p l e rm_MO_odds s m args below meth c H locs 0 0 (MQ below (QX E ad ixM A (some (.int r)) x') args s 0 0 A) (F0 m 281 ls []) := by
  obtain ⟨hx, hb, hml, hr, hown, hts, hlk, hK⟩ := id C0
  intro n
  induction n with
  | zero => intro x v0 v5 v7 v9 ho_v0 hf; exact of_no hf
  | succ n ih =>
    intro x v0 v5 v7 v9 ho_v0 hf H locs ls hP hS hl
    have hf : (if 99 < v9 then ff_MO_odds_306 x v0 v5 v7 else (if ixb v9 (ln (rf v0 19)) = true then lj (v7 + (gl x (rf v0 19) (ix v9))) (fun u_52 => ff_MO_odds_281 n x v0 v5 u_52 (v9 + 1)) else none)) = some (r, x') := hf
    refine lv_iload hx hb dd_MO_odds_281 (lv_at hl 3 rfl) ?_
    refine lv_bipush (v := 99) hx hb dd_MO_odds_283 (by decide) ?_
    refine lv_icmp_gt (tgt := 306) hx hb dd_MO_odds_285 (by decide) (fun h_44 => ?_) (fun h_44 => ?_)
    · have hf := (if_pos h_44).symm.trans hf
      exact ww_MO_odds_306 C0 hap  ho_v0 hf hP hS (lv_sub hl [0, 1, 2] rfl)
    · have hf := (if_neg h_44).symm.trans hf
      refine lv_lload hx hb dd_MO_odds_288 (lv_at hl 2 rfl) ?_
      refine lv_aload_n hx hb dd_MO_odds_290 rfl (lv_at hl 0 rfl) ?_
      refine gf_MO_43 C0 hP ho_v0 dd_MO_odds_291 ?_
      refine lv_iload hx hb dd_MO_odds_294 (lv_at hl 3 rfl) ?_
      obtain ⟨h_51, hf⟩ := of_ifb hf
      refine raL C0 hP (tp_6_19 ho_v0) h_51 dd_MO_odds_296 ?_
      refine lv_ladd hx hb dd_MO_odds_297 ?_
      obtain ⟨u_52, eu_52, hf⟩ := of_lj hf
      refine tpj eu_52 ?_
      refine lv_lstore (lv' := [(7, .long u_52), (0, .ref (ad v0)), (5, .long v5), (9, .int v9)]) hx hb dd_MO_odds_298 hl (by decide) rfl (fun ls hl => ?_)
      refine lv_iinc (v := v9 + 1) (lv' := [(9, .int (v9 + 1)), (7, .long u_52), (0, .ref (ad v0)), (5, .long v5)]) hx hb dd_MO_odds_300 hl (k := 3) rfl rfl (by decide) rfl (fun ls hl => ?_)
      refine lv_goto (tgt := 281) hx hb dd_MO_odds_303 (by decide) ?_
      exact ih x v0 v5 u_52 (v9 + 1) ho_v0 hf _ _ _ hP hS (lv_sub hl [2, 3, 1, 0] rfl)
set_option maxHeartbeats 4000000 in
set_option maxRecDepth 100000 in
theorem ww_MO_odds_275 {p : Program} {l : Launch} {e : Env} {s : State} {m : MethodId} {args : Array Value} {below : List Frame} {meth : Method} {c : Code} {E : Ev} {A : Nat → Prop} {ad : Nat → Nat} {r : Int32} {x' : St} (C0 : Cx E A RMO bb_MO_odds 15 (some .int) p s m args meth c) (hap : Ap ad ixM A)  {x : St} {v0 : Nat} {v2 : Int32} {v5 : Int64} (ho_v0 : isO ixM v0 6) (hf : ff_MO_odds_275 x v0 v2 v5 = some (r, x')) {H : Heap} {locs : List Loc} {ls : Array Slot} (hP : Wd E ad ixM x H) (hS : va_S A s.heap H locs) (hl : lv_has ls 15 [(0, .ref (ad v0)), (2, .int v2), (5, .long v5)]) : W p l e rm_MO_odds s m args below meth c H locs 0 0 (MQ below (QX E ad ixM A (some (.int r)) x') args s 0 0 A) (F0 m 275 ls []) := by
  obtain ⟨hx, hb, hml, hr, hown, hts, hlk, hK⟩ := id C0
  have hf : ff_MO_odds_281 FU x v0 v5 0 v2 = some (r, x') := hf
  refine lv_lconst (v := 0) hx hb dd_MO_odds_275 (by decide) ?_
  refine lv_lstore (lv' := [(7, .long 0), (0, .ref (ad v0)), (2, .int v2), (5, .long v5)]) hx hb dd_MO_odds_276 hl (by decide) rfl (fun ls hl => ?_)
  refine lv_iload_n hx hb dd_MO_odds_278 rfl (lv_at hl 2 rfl) ?_
  refine lv_istore (lv' := [(9, .int v2), (7, .long 0), (0, .ref (ad v0)), (2, .int v2), (5, .long v5)]) hx hb dd_MO_odds_279 hl (by decide) rfl (fun ls hl => ?_)
  exact ww_MO_odds_281 C0 hap  FU x v0 v5 0 v2 ho_v0 hf _ _ _ hP hS (lv_sub hl [2, 4, 1, 0] rfl)
set_option maxHeartbeats 4000000 in
set_option maxRecDepth 100000 in
theorem ww_MO_odds_261 {p : Program} {l : Launch} {e : Env} {s : State} {m : MethodId} {args : Array Value} {below : List Frame} {meth : Method} {c : Code} {E : Ev} {A : Nat → Prop} {ad : Nat → Nat} {r : Int32} {x' : St} (C0 : Cx E A RMO bb_MO_odds 15 (some .int) p s m args meth c) (hap : Ap ad ixM A) {k_121 : St → Nat → Int32 → Int32 → Int32 → Int32 → Int64 → Int32 → Option (Int32 × St)} (hk_121 : ∀ (x : St) (v0 : Nat) (v1 : Int32) (v2 : Int32) (v3 : Int32) (v4 : Int32) (v5 : Int64) (v7 : Int32), (isO ixM v0 6) → k_121 x v0 v1 v2 v3 v4 v5 v7 = some (r, x') → ∀ (H : Heap) (locs : List Loc) (ls : Array Slot), Wd E ad ixM x H → va_S A s.heap H locs → lv_has ls 15 [(0, .ref (ad v0)), (1, .int v1), (2, .int v2), (3, .int v3), (4, .int v4), (5, .long v5), (7, .int v7)] → W p l e rm_MO_odds s m args below meth c H locs 0 0 (MQ below (QX E ad ixM A (some (.int r)) x') args s 0 0 A) (F0 m 121 ls [])) {x : St} {v0 : Nat} {v1 : Int32} {v2 : Int32} {v3 : Int32} {v4 : Int32} {v5 : Int64} {v7 : Int32} (ho_v0 : isO ixM v0 6) (hf : ff_MO_odds_261 k_121 x v0 v1 v2 v3 v4 v5 v7 = some (r, x')) {H : Heap} {locs : List Loc} {ls : Array Slot} (hP : Wd E ad ixM x H) (hS : va_S A s.heap H locs) (hl : lv_has ls 15 [(0, .ref (ad v0)), (1, .int v1), (2, .int v2), (3, .int v3), (4, .int v4), (5, .long v5), (7, .int v7)]) : W p l e rm_MO_odds s m args below meth c H locs 0 0 (MQ below (QX E ad ixM A (some (.int r)) x') args s 0 0 A) (F0 m 261 ls []) := by
  obtain ⟨hx, hb, hml, hr, hown, hts, hlk, hK⟩ := id C0
  have hf : k_121 x v0 v1 v2 v3 v4 (v5 * 10) (v7 + 1) = some (r, x') := hf
  refine lv_lload hx hb dd_MO_odds_261 (lv_at hl 5 rfl) ?_
  refine lv_ldc2 (v := 10) hx hb hown (hts _ gw_k_MO_222) dd_MO_odds_263 ?_
  refine lv_lmul hx hb dd_MO_odds_266 ?_
  refine lv_lstore (lv' := [(5, .long (v5 * 10)), (0, .ref (ad v0)), (1, .int v1), (2, .int v2), (3, .int v3), (4, .int v4), (7, .int v7)]) hx hb dd_MO_odds_267 hl (by decide) rfl (fun ls hl => ?_)
  refine lv_iinc (v := v7 + 1) (lv' := [(7, .int (v7 + 1)), (5, .long (v5 * 10)), (0, .ref (ad v0)), (1, .int v1), (2, .int v2), (3, .int v3), (4, .int v4)]) hx hb dd_MO_odds_269 hl (k := 6) rfl rfl (by decide) rfl (fun ls hl => ?_)
  refine lv_goto (tgt := 121) hx hb dd_MO_odds_272 (by decide) ?_
  exact hk_121 x v0 v1 v2 v3 v4 (v5 * 10) (v7 + 1) ho_v0 hf _ _ _ hP hS (lv_sub hl [2, 3, 4, 5, 6, 1, 0] rfl)
set_option maxHeartbeats 4000000 in
set_option maxRecDepth 100000 in
theorem ww_MO_odds_234 {p : Program} {l : Launch} {e : Env} {s : State} {m : MethodId} {args : Array Value} {below : List Frame} {meth : Method} {c : Code} {E : Ev} {A : Nat → Prop} {ad : Nat → Nat} {r : Int32} {x' : St} (C0 : Cx E A RMO bb_MO_odds 15 (some .int) p s m args meth c) (hap : Ap ad ixM A) {k_121 : St → Nat → Int32 → Int32 → Int32 → Int32 → Int64 → Int32 → Option (Int32 × St)} (hk_121 : ∀ (x : St) (v0 : Nat) (v1 : Int32) (v2 : Int32) (v3 : Int32) (v4 : Int32) (v5 : Int64) (v7 : Int32), (isO ixM v0 6) → k_121 x v0 v1 v2 v3 v4 v5 v7 = some (r, x') → ∀ (H : Heap) (locs : List Loc) (ls : Array Slot), Wd E ad ixM x H → va_S A s.heap H locs → lv_has ls 15 [(0, .ref (ad v0)), (1, .int v1), (2, .int v2), (3, .int v3), (4, .int v4), (5, .long v5), (7, .int v7)] → W p l e rm_MO_odds s m args below meth c H locs 0 0 (MQ below (QX E ad ixM A (some (.int r)) x') args s 0 0 A) (F0 m 121 ls [])) : ∀ (n : Nat), ∀ (x : St) (v0 : Nat) (v1 : Int32) (v2 : Int32) (v3 : Int32) (v4 : Int32) (v5 : Int64) (v7 : Int32) (v8 : Int32), (isO ixM v0 6) → ff_MO_odds_234 k_121 n x v0 v1 v2 v3 v4 v5 v7 v8 = some (r, x') → ∀ (H : Heap) (locs : List Loc) (ls : Array Slot), Wd E ad ixM x H → va_S A s.heap H locs → lv_has ls 15 [(0, .ref (ad v0)), (1, .int v1), (2, .int v2), (3, .int v3), (4, .int v4), (5, .long v5), (7, .int v7), (8, .int v8)] → W p l e rm_MO_odds s m args below meth c H locs 0 0 (MQ below (QX E ad ixM A (some (.int r)) x') args s 0 0 A) (F0 m 234 ls []) := by
  obtain ⟨hx, hb, hml, hr, hown, hts, hlk, hK⟩ := id C0
  intro n
  induction n with
  | zero => intro x v0 v1 v2 v3 v4 v5 v7 v8 ho_v0 hf; exact of_no hf
  | succ n ih =>
    intro x v0 v1 v2 v3 v4 v5 v7 v8 ho_v0 hf H locs ls hP hS hl
    have hf : (if 99 < v8 then ff_MO_odds_261 k_121 x v0 v1 v2 v3 v4 v5 v7 else (if ixb v8 (ln (rf v0 20)) = true then (if ixb v8 (ln (rf v0 19)) = true then st (sl x (rf v0 19) (ix v8) (gl x (rf v0 20) (ix v8))) (fun x_58 => ff_MO_odds_234 k_121 n x_58 v0 v1 v2 v3 v4 v5 v7 (v8 + 1)) else none) else none)) = some (r, x') := hf
    refine lv_iload hx hb dd_MO_odds_234 (lv_at hl 7 rfl) ?_
    refine lv_bipush (v := 99) hx hb dd_MO_odds_236 (by decide) ?_
    refine lv_icmp_gt (tgt := 261) hx hb dd_MO_odds_238 (by decide) (fun h_55 => ?_) (fun h_55 => ?_)
    · have hf := (if_pos h_55).symm.trans hf
      exact ww_MO_odds_261 C0 hap hk_121 ho_v0 hf hP hS (lv_sub hl [0, 1, 2, 3, 4, 5, 6] rfl)
    · have hf := (if_neg h_55).symm.trans hf
      refine lv_aload_n hx hb dd_MO_odds_241 rfl (lv_at hl 0 rfl) ?_
      refine gf_MO_43 C0 hP ho_v0 dd_MO_odds_242 ?_
      refine lv_iload hx hb dd_MO_odds_245 (lv_at hl 7 rfl) ?_
      refine lv_aload_n hx hb dd_MO_odds_247 rfl (lv_at hl 0 rfl) ?_
      refine gf_MO_47 C0 hP ho_v0 dd_MO_odds_248 ?_
      refine lv_iload hx hb dd_MO_odds_251 (lv_at hl 7 rfl) ?_
      obtain ⟨h_56, hf⟩ := of_ifb hf
      refine raL C0 hP (tp_6_20 ho_v0) h_56 dd_MO_odds_253 ?_
      obtain ⟨h_57, hf⟩ := of_ifb hf
      obtain ⟨x_58, hx_58, hf⟩ := of_st hf
      refine sL C0 hap hP hS (tp_6_19 ho_v0) h_57 hx_58 dd_MO_odds_254 (fun H locs hP hS => ?_)
      refine lv_iinc (v := v8 + 1) (lv' := [(8, .int (v8 + 1)), (0, .ref (ad v0)), (1, .int v1), (2, .int v2), (3, .int v3), (4, .int v4), (5, .long v5), (7, .int v7)]) hx hb dd_MO_odds_255 hl (k := 7) rfl rfl (by decide) rfl (fun ls hl => ?_)
      refine lv_goto (tgt := 234) hx hb dd_MO_odds_258 (by decide) ?_
      exact ih x_58 v0 v1 v2 v3 v4 v5 v7 (v8 + 1) ho_v0 hf _ _ _ hP hS (lv_sub hl [1, 2, 3, 4, 5, 6, 7, 0] rfl)
set_option maxHeartbeats 4000000 in
set_option maxRecDepth 100000 in
theorem ww_MO_odds_160 {p : Program} {l : Launch} {e : Env} {s : State} {m : MethodId} {args : Array Value} {below : List Frame} {meth : Method} {c : Code} {E : Ev} {A : Nat → Prop} {ad : Nat → Nat} {r : Int32} {x' : St} (C0 : Cx E A RMO bb_MO_odds 15 (some .int) p s m args meth c) (hap : Ap ad ixM A) {k_121 : St → Nat → Int32 → Int32 → Int32 → Int32 → Int64 → Int32 → Option (Int32 × St)} (hk_121 : ∀ (x : St) (v0 : Nat) (v1 : Int32) (v2 : Int32) (v3 : Int32) (v4 : Int32) (v5 : Int64) (v7 : Int32), (isO ixM v0 6) → k_121 x v0 v1 v2 v3 v4 v5 v7 = some (r, x') → ∀ (H : Heap) (locs : List Loc) (ls : Array Slot), Wd E ad ixM x H → va_S A s.heap H locs → lv_has ls 15 [(0, .ref (ad v0)), (1, .int v1), (2, .int v2), (3, .int v3), (4, .int v4), (5, .long v5), (7, .int v7)] → W p l e rm_MO_odds s m args below meth c H locs 0 0 (MQ below (QX E ad ixM A (some (.int r)) x') args s 0 0 A) (F0 m 121 ls [])) : ∀ (n : Nat), ∀ (x : St) (v0 : Nat) (v1 : Int32) (v2 : Int32) (v3 : Int32) (v4 : Int32) (v5 : Int64) (v7 : Int32) (v8 : Int32), (isO ixM v0 6) → ff_MO_odds_160 k_121 n x v0 v1 v2 v3 v4 v5 v7 v8 = some (r, x') → ∀ (H : Heap) (locs : List Loc) (ls : Array Slot), Wd E ad ixM x H → va_S A s.heap H locs → lv_has ls 15 [(0, .ref (ad v0)), (1, .int v1), (2, .int v2), (3, .int v3), (4, .int v4), (5, .long v5), (7, .int v7), (8, .int v8)] → W p l e rm_MO_odds s m args below meth c H locs 0 0 (MQ below (QX E ad ixM A (some (.int r)) x') args s 0 0 A) (F0 m 160 ls []) := by
  obtain ⟨hx, hb, hml, hr, hown, hts, hlk, hK⟩ := id C0
  intro n
  induction n with
  | zero => intro x v0 v1 v2 v3 v4 v5 v7 v8 ho_v0 hf; exact of_no hf
  | succ n ih =>
    intro x v0 v1 v2 v3 v4 v5 v7 v8 ho_v0 hf H locs ls hP hS hl
    have hf : (if 99 < v8 then ff_MO_odds_234 k_121 FU x v0 v1 v2 v3 v4 v5 v7 0 else bnd (ff_MO_onDay x v0 v1 v8 v7) (fun r_59 x_60 => (if ixb r_59 (ln (rf v0 20)) = true then (if ixb v8 (ln (rf v0 19)) = true then (if ixb r_59 (ln (rf v0 20)) = true then st (sl x_60 (rf v0 20) (ix r_59) ((gl x_60 (rf v0 20) (ix r_59)) + ((gl x_60 (rf v0 19) (ix v8)) * ((10 - v4).toInt64)))) (fun x_65 => (if ixb (r_59 / 2) (ln (rf v0 20)) = true then (if ixb v8 (ln (rf v0 19)) = true then (if ixb (r_59 / 2) (ln (rf v0 20)) = true then st (sl x_65 (rf v0 20) (ix (r_59 / 2)) ((gl x_65 (rf v0 20) (ix (r_59 / 2))) + ((gl x_65 (rf v0 19) (ix v8)) * (v4.toInt64)))) (fun x_69 => ff_MO_odds_160 k_121 n x_69 v0 v1 v2 v3 v4 v5 v7 (v8 + 1)) else none) else none) else none)) else none) else none) else none))) = some (r, x') := hf
    refine lv_iload hx hb dd_MO_odds_160 (lv_at hl 7 rfl) ?_
    refine lv_bipush (v := 99) hx hb dd_MO_odds_162 (by decide) ?_
    refine lv_icmp_gt (tgt := 231) hx hb dd_MO_odds_164 (by decide) (fun h_54 => ?_) (fun h_54 => ?_)
    · have hf := (if_pos h_54).symm.trans hf
      refine lv_iconst (v := 0) hx hb dd_MO_odds_231 (by decide) ?_
      refine lv_istore (lv' := [(8, .int 0), (0, .ref (ad v0)), (1, .int v1), (2, .int v2), (3, .int v3), (4, .int v4), (5, .long v5), (7, .int v7)]) hx hb dd_MO_odds_232 hl (by decide) rfl (fun ls hl => ?_)
      exact ww_MO_odds_234 C0 hap hk_121 FU x v0 v1 v2 v3 v4 v5 v7 0 ho_v0 hf _ _ _ hP hS (lv_sub hl [1, 2, 3, 4, 5, 6, 7, 0] rfl)
    · have hf := (if_neg h_54).symm.trans hf
      refine lv_aload_n hx hb dd_MO_odds_167 rfl (lv_at hl 0 rfl) ?_
      refine lv_iload_n hx hb dd_MO_odds_168 rfl (lv_at hl 1 rfl) ?_
      refine lv_iload hx hb dd_MO_odds_169 (lv_at hl 7 rfl) ?_
      refine lv_iload hx hb dd_MO_odds_171 (lv_at hl 6 rfl) ?_
      obtain ⟨r_59, x_60, c_61, hf⟩ := of_bnd hf
      refine cl_MO_186 C0 hap ho_v0 c_61 hP hS ⟨Nat.le_of_ble_eq_true rfl, Nat.le_of_ble_eq_true rfl⟩ hl.1 (Nat.le_of_ble_eq_true rfl) dd_MO_odds_173 ⟨Nat.le_refl _, Nat.le_refl _⟩ (fun H locs hP hS => ?_)
      refine lv_istore (lv' := [(9, .int r_59), (0, .ref (ad v0)), (1, .int v1), (2, .int v2), (3, .int v3), (4, .int v4), (5, .long v5), (7, .int v7), (8, .int v8)]) hx hb dd_MO_odds_176 hl (by decide) rfl (fun ls hl => ?_)
      refine lv_aload_n hx hb dd_MO_odds_178 rfl (lv_at hl 1 rfl) ?_
      refine gf_MO_47 C0 hP ho_v0 dd_MO_odds_179 ?_
      refine lv_iload hx hb dd_MO_odds_182 (lv_at hl 0 rfl) ?_
      refine lv_dup2_11 hx hb dd_MO_odds_184 rfl rfl ?_
      obtain ⟨h_62, hf⟩ := of_ifb hf
      refine raL C0 hP (tp_6_20 ho_v0) h_62 dd_MO_odds_185 ?_
      refine lv_aload_n hx hb dd_MO_odds_186 rfl (lv_at hl 1 rfl) ?_
      refine gf_MO_43 C0 hP ho_v0 dd_MO_odds_187 ?_
      refine lv_iload hx hb dd_MO_odds_190 (lv_at hl 8 rfl) ?_
      obtain ⟨h_63, hf⟩ := of_ifb hf
      refine raL C0 hP (tp_6_19 ho_v0) h_63 dd_MO_odds_192 ?_
      refine lv_bipush (v := 10) hx hb dd_MO_odds_193 (by decide) ?_
      refine lv_iload hx hb dd_MO_odds_195 (lv_at hl 5 rfl) ?_
      refine lv_isub hx hb dd_MO_odds_197 ?_
      refine lv_i2l hx hb dd_MO_odds_198 rfl ?_
      refine lv_lmul hx hb dd_MO_odds_199 ?_
      refine lv_ladd hx hb dd_MO_odds_200 ?_
      obtain ⟨h_64, hf⟩ := of_ifb hf
      obtain ⟨x_65, hx_65, hf⟩ := of_st hf
      refine sL C0 hap hP hS (tp_6_20 ho_v0) h_64 hx_65 dd_MO_odds_201 (fun H locs hP hS => ?_)
      refine lv_aload_n hx hb dd_MO_odds_202 rfl (lv_at hl 1 rfl) ?_
      refine gf_MO_47 C0 hP ho_v0 dd_MO_odds_203 ?_
      refine lv_iload hx hb dd_MO_odds_206 (lv_at hl 0 rfl) ?_
      refine lv_iconst (v := 2) hx hb dd_MO_odds_208 (by decide) ?_
      refine lv_idiv hx hb dd_MO_odds_209 (by decide) ?_
      refine lv_dup2_11 hx hb dd_MO_odds_210 rfl rfl ?_
      obtain ⟨h_66, hf⟩ := of_ifb hf
      refine raL C0 hP (tp_6_20 ho_v0) h_66 dd_MO_odds_211 ?_
      refine lv_aload_n hx hb dd_MO_odds_212 rfl (lv_at hl 1 rfl) ?_
      refine gf_MO_43 C0 hP ho_v0 dd_MO_odds_213 ?_
      refine lv_iload hx hb dd_MO_odds_216 (lv_at hl 8 rfl) ?_
      obtain ⟨h_67, hf⟩ := of_ifb hf
      refine raL C0 hP (tp_6_19 ho_v0) h_67 dd_MO_odds_218 ?_
      refine lv_iload hx hb dd_MO_odds_219 (lv_at hl 5 rfl) ?_
      refine lv_i2l hx hb dd_MO_odds_221 rfl ?_
      refine lv_lmul hx hb dd_MO_odds_222 ?_
      refine lv_ladd hx hb dd_MO_odds_223 ?_
      obtain ⟨h_68, hf⟩ := of_ifb hf
      obtain ⟨x_69, hx_69, hf⟩ := of_st hf
      refine sL C0 hap hP hS (tp_6_20 ho_v0) h_68 hx_69 dd_MO_odds_224 (fun H locs hP hS => ?_)
      refine lv_iinc (v := v8 + 1) (lv' := [(8, .int (v8 + 1)), (9, .int r_59), (0, .ref (ad v0)), (1, .int v1), (2, .int v2), (3, .int v3), (4, .int v4), (5, .long v5), (7, .int v7)]) hx hb dd_MO_odds_225 hl (k := 8) rfl rfl (by decide) rfl (fun ls hl => ?_)
      refine lv_goto (tgt := 160) hx hb dd_MO_odds_228 (by decide) ?_
      exact ih x_69 v0 v1 v2 v3 v4 v5 v7 (v8 + 1) ho_v0 hf _ _ _ hP hS (lv_sub hl [2, 3, 4, 5, 6, 7, 8, 0] rfl)
set_option maxHeartbeats 4000000 in
set_option maxRecDepth 100000 in
theorem ww_MO_odds_136 {p : Program} {l : Launch} {e : Env} {s : State} {m : MethodId} {args : Array Value} {below : List Frame} {meth : Method} {c : Code} {E : Ev} {A : Nat → Prop} {ad : Nat → Nat} {r : Int32} {x' : St} (C0 : Cx E A RMO bb_MO_odds 15 (some .int) p s m args meth c) (hap : Ap ad ixM A) {k_121 : St → Nat → Int32 → Int32 → Int32 → Int32 → Int64 → Int32 → Option (Int32 × St)} (hk_121 : ∀ (x : St) (v0 : Nat) (v1 : Int32) (v2 : Int32) (v3 : Int32) (v4 : Int32) (v5 : Int64) (v7 : Int32), (isO ixM v0 6) → k_121 x v0 v1 v2 v3 v4 v5 v7 = some (r, x') → ∀ (H : Heap) (locs : List Loc) (ls : Array Slot), Wd E ad ixM x H → va_S A s.heap H locs → lv_has ls 15 [(0, .ref (ad v0)), (1, .int v1), (2, .int v2), (3, .int v3), (4, .int v4), (5, .long v5), (7, .int v7)] → W p l e rm_MO_odds s m args below meth c H locs 0 0 (MQ below (QX E ad ixM A (some (.int r)) x') args s 0 0 A) (F0 m 121 ls [])) : ∀ (n : Nat), ∀ (x : St) (v0 : Nat) (v1 : Int32) (v2 : Int32) (v3 : Int32) (v4 : Int32) (v5 : Int64) (v7 : Int32) (v8 : Int32), (isO ixM v0 6) → ff_MO_odds_136 k_121 n x v0 v1 v2 v3 v4 v5 v7 v8 = some (r, x') → ∀ (H : Heap) (locs : List Loc) (ls : Array Slot), Wd E ad ixM x H → va_S A s.heap H locs → lv_has ls 15 [(0, .ref (ad v0)), (1, .int v1), (2, .int v2), (3, .int v3), (4, .int v4), (5, .long v5), (7, .int v7), (8, .int v8)] → W p l e rm_MO_odds s m args below meth c H locs 0 0 (MQ below (QX E ad ixM A (some (.int r)) x') args s 0 0 A) (F0 m 136 ls []) := by
  obtain ⟨hx, hb, hml, hr, hown, hts, hlk, hK⟩ := id C0
  intro n
  induction n with
  | zero => intro x v0 v1 v2 v3 v4 v5 v7 v8 ho_v0 hf; exact of_no hf
  | succ n ih =>
    intro x v0 v1 v2 v3 v4 v5 v7 v8 ho_v0 hf H locs ls hP hS hl
    have hf : (if 99 < v8 then ff_MO_odds_160 k_121 FU x v0 v1 v2 v3 v4 v5 v7 0 else (if ixb v8 (ln (rf v0 20)) = true then st (sl x (rf v0 20) (ix v8) 0) (fun x_71 => ff_MO_odds_136 k_121 n x_71 v0 v1 v2 v3 v4 v5 v7 (v8 + 1)) else none)) = some (r, x') := hf
    refine lv_iload hx hb dd_MO_odds_136 (lv_at hl 7 rfl) ?_
    refine lv_bipush (v := 99) hx hb dd_MO_odds_138 (by decide) ?_
    refine lv_icmp_gt (tgt := 157) hx hb dd_MO_odds_140 (by decide) (fun h_53 => ?_) (fun h_53 => ?_)
    · have hf := (if_pos h_53).symm.trans hf
      refine lv_iconst (v := 0) hx hb dd_MO_odds_157 (by decide) ?_
      refine lv_istore (lv' := [(8, .int 0), (0, .ref (ad v0)), (1, .int v1), (2, .int v2), (3, .int v3), (4, .int v4), (5, .long v5), (7, .int v7)]) hx hb dd_MO_odds_158 hl (by decide) rfl (fun ls hl => ?_)
      exact ww_MO_odds_160 C0 hap hk_121 FU x v0 v1 v2 v3 v4 v5 v7 0 ho_v0 hf _ _ _ hP hS (lv_sub hl [1, 2, 3, 4, 5, 6, 7, 0] rfl)
    · have hf := (if_neg h_53).symm.trans hf
      refine lv_aload_n hx hb dd_MO_odds_143 rfl (lv_at hl 0 rfl) ?_
      refine gf_MO_47 C0 hP ho_v0 dd_MO_odds_144 ?_
      refine lv_iload hx hb dd_MO_odds_147 (lv_at hl 7 rfl) ?_
      refine lv_lconst (v := 0) hx hb dd_MO_odds_149 (by decide) ?_
      obtain ⟨h_70, hf⟩ := of_ifb hf
      obtain ⟨x_71, hx_71, hf⟩ := of_st hf
      refine sL C0 hap hP hS (tp_6_20 ho_v0) h_70 hx_71 dd_MO_odds_150 (fun H locs hP hS => ?_)
      refine lv_iinc (v := v8 + 1) (lv' := [(8, .int (v8 + 1)), (0, .ref (ad v0)), (1, .int v1), (2, .int v2), (3, .int v3), (4, .int v4), (5, .long v5), (7, .int v7)]) hx hb dd_MO_odds_151 hl (k := 7) rfl rfl (by decide) rfl (fun ls hl => ?_)
      refine lv_goto (tgt := 136) hx hb dd_MO_odds_154 (by decide) ?_
      exact ih x_71 v0 v1 v2 v3 v4 v5 v7 (v8 + 1) ho_v0 hf _ _ _ hP hS (lv_sub hl [1, 2, 3, 4, 5, 6, 7, 0] rfl)
set_option maxHeartbeats 4000000 in
set_option maxRecDepth 100000 in
theorem ww_MO_odds_121 {p : Program} {l : Launch} {e : Env} {s : State} {m : MethodId} {args : Array Value} {below : List Frame} {meth : Method} {c : Code} {E : Ev} {A : Nat → Prop} {ad : Nat → Nat} {r : Int32} {x' : St} (C0 : Cx E A RMO bb_MO_odds 15 (some .int) p s m args meth c) (hap : Ap ad ixM A)  : ∀ (n : Nat), ∀ (x : St) (v0 : Nat) (v1 : Int32) (v2 : Int32) (v3 : Int32) (v4 : Int32) (v5 : Int64) (v7 : Int32), (isO ixM v0 6) → ff_MO_odds_121 n x v0 v1 v2 v3 v4 v5 v7 = some (r, x') → ∀ (H : Heap) (locs : List Loc) (ls : Array Slot), Wd E ad ixM x H → va_S A s.heap H locs → lv_has ls 15 [(0, .ref (ad v0)), (1, .int v1), (2, .int v2), (3, .int v3), (4, .int v4), (5, .long v5), (7, .int v7)] → W p l e rm_MO_odds s m args below meth c H locs 0 0 (MQ below (QX E ad ixM A (some (.int r)) x') args s 0 0 A) (F0 m 121 ls []) := by
  obtain ⟨hx, hb, hml, hr, hown, hts, hlk, hK⟩ := id C0
  intro n
  induction n with
  | zero => intro x v0 v1 v2 v3 v4 v5 v7 ho_v0 hf; exact of_no hf
  | succ n ih =>
    intro x v0 v1 v2 v3 v4 v5 v7 ho_v0 hf H locs ls hP hS hl
    have hf : bnd (ff_MO_get x v0 5) (fun r_40 x_41 => (if (r_40 + v3) < v7 then ff_MO_odds_275 x_41 v0 v2 v5 else ff_MO_odds_136 (ff_MO_odds_121 n) FU x_41 v0 v1 v2 v3 v4 v5 v7 0)) = some (r, x') := hf
    refine lv_iload hx hb dd_MO_odds_121 (lv_at hl 6 rfl) ?_
    refine lv_aload_n hx hb dd_MO_odds_123 rfl (lv_at hl 0 rfl) ?_
    refine lv_iconst (v := 5) hx hb dd_MO_odds_124 (by decide) ?_
    obtain ⟨r_40, x_41, c_42, hf⟩ := of_bnd hf
    refine cl_MO_60 C0 hap ho_v0 c_42 hP hS ⟨Nat.le_of_ble_eq_true rfl, Nat.le_of_ble_eq_true rfl⟩ hl.1 (Nat.le_of_ble_eq_true rfl) dd_MO_odds_125 ⟨Nat.le_refl _, Nat.le_refl _⟩ (fun H locs hP hS => ?_)
    refine lv_iload_n hx hb dd_MO_odds_128 rfl (lv_at hl 3 rfl) ?_
    refine lv_iadd hx hb dd_MO_odds_129 ?_
    refine lv_icmp_gt (tgt := 275) hx hb dd_MO_odds_130 (by decide) (fun h_43 => ?_) (fun h_43 => ?_)
    · have hf := (if_pos h_43).symm.trans hf
      exact ww_MO_odds_275 C0 hap  ho_v0 hf hP hS (lv_sub hl [0, 2, 5] rfl)
    · have hf := (if_neg h_43).symm.trans hf
      refine lv_iconst (v := 0) hx hb dd_MO_odds_133 (by decide) ?_
      refine lv_istore (lv' := [(8, .int 0), (0, .ref (ad v0)), (1, .int v1), (2, .int v2), (3, .int v3), (4, .int v4), (5, .long v5), (7, .int v7)]) hx hb dd_MO_odds_134 hl (by decide) rfl (fun ls hl => ?_)
      exact ww_MO_odds_136 C0 hap ih FU x_41 v0 v1 v2 v3 v4 v5 v7 0 ho_v0 hf _ _ _ hP hS (lv_sub hl [1, 2, 3, 4, 5, 6, 7, 0] rfl)
set_option maxHeartbeats 4000000 in
set_option maxRecDepth 100000 in
theorem ww_MO_odds_109 {p : Program} {l : Launch} {e : Env} {s : State} {m : MethodId} {args : Array Value} {below : List Frame} {meth : Method} {c : Code} {E : Ev} {A : Nat → Prop} {ad : Nat → Nat} {r : Int32} {x' : St} (C0 : Cx E A RMO bb_MO_odds 15 (some .int) p s m args meth c) (hap : Ap ad ixM A)  {x : St} {v0 : Nat} {v1 : Int32} {v2 : Int32} {v3 : Int32} {v4 : Int32} (ho_v0 : isO ixM v0 6) (hf : ff_MO_odds_109 x v0 v1 v2 v3 v4 = some (r, x')) {H : Heap} {locs : List Loc} {ls : Array Slot} (hP : Wd E ad ixM x H) (hS : va_S A s.heap H locs) (hl : lv_has ls 15 [(0, .ref (ad v0)), (1, .int v1), (2, .int v2), (3, .int v3), (4, .int v4)]) : W p l e rm_MO_odds s m args below meth c H locs 0 0 (MQ below (QX E ad ixM A (some (.int r)) x') args s 0 0 A) (F0 m 109 ls []) := by
  obtain ⟨hx, hb, hml, hr, hown, hts, hlk, hK⟩ := id C0
  have hf : bnd (ff_MO_get x v0 5) (fun r_37 x_38 => ff_MO_odds_121 FU x_38 v0 v1 v2 v3 v4 1 (r_37 + 1)) = some (r, x') := hf
  refine lv_lconst (v := 1) hx hb dd_MO_odds_109 (by decide) ?_
  refine lv_lstore (lv' := [(5, .long 1), (0, .ref (ad v0)), (1, .int v1), (2, .int v2), (3, .int v3), (4, .int v4)]) hx hb dd_MO_odds_110 hl (by decide) rfl (fun ls hl => ?_)
  refine lv_aload_n hx hb dd_MO_odds_112 rfl (lv_at hl 1 rfl) ?_
  refine lv_iconst (v := 5) hx hb dd_MO_odds_113 (by decide) ?_
  obtain ⟨r_37, x_38, c_39, hf⟩ := of_bnd hf
  refine cl_MO_60 C0 hap ho_v0 c_39 hP hS ⟨Nat.le_of_ble_eq_true rfl, Nat.le_of_ble_eq_true rfl⟩ hl.1 (Nat.le_of_ble_eq_true rfl) dd_MO_odds_114 ⟨Nat.le_refl _, Nat.le_refl _⟩ (fun H locs hP hS => ?_)
  refine lv_iconst (v := 1) hx hb dd_MO_odds_117 (by decide) ?_
  refine lv_iadd hx hb dd_MO_odds_118 ?_
  refine lv_istore (lv' := [(7, .int (r_37 + 1)), (5, .long 1), (0, .ref (ad v0)), (1, .int v1), (2, .int v2), (3, .int v3), (4, .int v4)]) hx hb dd_MO_odds_119 hl (by decide) rfl (fun ls hl => ?_)
  exact ww_MO_odds_121 C0 hap  FU x_38 v0 v1 v2 v3 v4 1 (r_37 + 1) ho_v0 hf _ _ _ hP hS (lv_sub hl [2, 3, 4, 5, 6, 1, 0] rfl)
set_option maxHeartbeats 4000000 in
set_option maxRecDepth 100000 in
theorem ww_MO_odds_64 {p : Program} {l : Launch} {e : Env} {s : State} {m : MethodId} {args : Array Value} {below : List Frame} {meth : Method} {c : Code} {E : Ev} {A : Nat → Prop} {ad : Nat → Nat} {r : Int32} {x' : St} (C0 : Cx E A RMO bb_MO_odds 15 (some .int) p s m args meth c) (hap : Ap ad ixM A)  : ∀ (n : Nat), ∀ (x : St) (v0 : Nat) (v1 : Int32) (v2 : Int32) (v3 : Int32) (v4 : Int32) (v5 : Int32), (isO ixM v0 6) → ff_MO_odds_64 n x v0 v1 v2 v3 v4 v5 = some (r, x') → ∀ (H : Heap) (locs : List Loc) (ls : Array Slot), Wd E ad ixM x H → va_S A s.heap H locs → lv_has ls 15 [(0, .ref (ad v0)), (1, .int v1), (2, .int v2), (3, .int v3), (4, .int v4), (5, .int v5)] → W p l e rm_MO_odds s m args below meth c H locs 0 0 (MQ below (QX E ad ixM A (some (.int r)) x') args s 0 0 A) (F0 m 64 ls []) := by
  obtain ⟨hx, hb, hml, hr, hown, hts, hlk, hK⟩ := id C0
  intro n
  induction n with
  | zero => intro x v0 v1 v2 v3 v4 v5 ho_v0 hf; exact of_no hf
  | succ n ih =>
    intro x v0 v1 v2 v3 v4 v5 ho_v0 hf H locs ls hP hS hl
    have hf : (if 99 < v5 then ff_MO_odds_109 x v0 v1 v2 v3 v4 else bnd (ff_MO_get x v0 5) (fun r_72 x_73 => (if ixb ((100 * v1) + r_72) (ln (rf v0 14)) = true then (if v5 = (gi x_73 (rf v0 14) (ix ((100 * v1) + r_72))) then (if ixb v5 (ln (rf v0 19)) = true then st (sl x_73 (rf v0 19) (ix v5) 1) (fun x_80 => ff_MO_odds_64 n x_80 v0 v1 v2 v3 v4 (v5 + 1)) else none) else (if ixb v5 (ln (rf v0 19)) = true then st (sl x_73 (rf v0 19) (ix v5) 0) (fun x_78 => ff_MO_odds_64 n x_78 v0 v1 v2 v3 v4 (v5 + 1)) else none)) else none))) = some (r, x') := hf
    refine lv_iload hx hb dd_MO_odds_64 (lv_at hl 5 rfl) ?_
    refine lv_bipush (v := 99) hx hb dd_MO_odds_66 (by decide) ?_
    refine lv_icmp_gt (tgt := 109) hx hb dd_MO_odds_68 (by decide) (fun h_36 => ?_) (fun h_36 => ?_)
    · have hf := (if_pos h_36).symm.trans hf
      exact ww_MO_odds_109 C0 hap  ho_v0 hf hP hS (lv_sub hl [0, 1, 2, 3, 4] rfl)
    · have hf := (if_neg h_36).symm.trans hf
      refine lv_aload_n hx hb dd_MO_odds_71 rfl (lv_at hl 0 rfl) ?_
      refine gf_MO_43 C0 hP ho_v0 dd_MO_odds_72 ?_
      refine lv_iload hx hb dd_MO_odds_75 (lv_at hl 5 rfl) ?_
      refine lv_iload hx hb dd_MO_odds_77 (lv_at hl 5 rfl) ?_
      refine lv_aload_n hx hb dd_MO_odds_79 rfl (lv_at hl 0 rfl) ?_
      refine gf_MO_28 C0 hP ho_v0 dd_MO_odds_80 ?_
      refine lv_bipush (v := 100) hx hb dd_MO_odds_83 (by decide) ?_
      refine lv_iload_n hx hb dd_MO_odds_85 rfl (lv_at hl 1 rfl) ?_
      refine lv_imul hx hb dd_MO_odds_86 ?_
      refine lv_aload_n hx hb dd_MO_odds_87 rfl (lv_at hl 0 rfl) ?_
      refine lv_iconst (v := 5) hx hb dd_MO_odds_88 (by decide) ?_
      obtain ⟨r_72, x_73, c_74, hf⟩ := of_bnd hf
      refine cl_MO_60 C0 hap ho_v0 c_74 hP hS ⟨Nat.le_of_ble_eq_true rfl, Nat.le_of_ble_eq_true rfl⟩ hl.1 (Nat.le_of_ble_eq_true rfl) dd_MO_odds_89 ⟨Nat.le_refl _, Nat.le_refl _⟩ (fun H locs hP hS => ?_)
      refine lv_iadd hx hb dd_MO_odds_92 ?_
      obtain ⟨h_75, hf⟩ := of_ifb hf
      refine raI C0 hP (tp_6_14 ho_v0) h_75 dd_MO_odds_93 ?_
      refine lv_icmp_ne (tgt := 101) hx hb dd_MO_odds_94 (by decide) (fun h_76 => ?_) (fun h_76 => ?_)
      · have hf := (if_neg h_76).symm.trans hf
        refine lv_lconst (v := 0) hx hb dd_MO_odds_101 (by decide) ?_
        obtain ⟨h_77, hf⟩ := of_ifb hf
        obtain ⟨x_78, hx_78, hf⟩ := of_st hf
        refine sL C0 hap hP hS (tp_6_19 ho_v0) h_77 hx_78 dd_MO_odds_102 (fun H locs hP hS => ?_)
        refine lv_iinc (v := v5 + 1) (lv' := [(5, .int (v5 + 1)), (0, .ref (ad v0)), (1, .int v1), (2, .int v2), (3, .int v3), (4, .int v4)]) hx hb dd_MO_odds_103 hl (k := 5) rfl rfl (by decide) rfl (fun ls hl => ?_)
        refine lv_goto (tgt := 64) hx hb dd_MO_odds_106 (by decide) ?_
        exact ih x_78 v0 v1 v2 v3 v4 (v5 + 1) ho_v0 hf _ _ _ hP hS (lv_sub hl [1, 2, 3, 4, 5, 0] rfl)
      · have hf := (if_pos h_76).symm.trans hf
        refine lv_lconst (v := 1) hx hb dd_MO_odds_97 (by decide) ?_
        refine lv_goto (tgt := 102) hx hb dd_MO_odds_98 (by decide) ?_
        obtain ⟨h_79, hf⟩ := of_ifb hf
        obtain ⟨x_80, hx_80, hf⟩ := of_st hf
        refine sL C0 hap hP hS (tp_6_19 ho_v0) h_79 hx_80 dd_MO_odds_102 (fun H locs hP hS => ?_)
        refine lv_iinc (v := v5 + 1) (lv' := [(5, .int (v5 + 1)), (0, .ref (ad v0)), (1, .int v1), (2, .int v2), (3, .int v3), (4, .int v4)]) hx hb dd_MO_odds_103 hl (k := 5) rfl rfl (by decide) rfl (fun ls hl => ?_)
        refine lv_goto (tgt := 64) hx hb dd_MO_odds_106 (by decide) ?_
        exact ih x_80 v0 v1 v2 v3 v4 (v5 + 1) ho_v0 hf _ _ _ hP hS (lv_sub hl [1, 2, 3, 4, 5, 0] rfl)
set_option maxHeartbeats 4000000 in
set_option maxRecDepth 100000 in
theorem ww_MO_odds {p : Program} {l : Launch} {e : Env} {s : State} {m : MethodId} {args : Array Value} {below : List Frame} {meth : Method} {c : Code} {E : Ev} {A : Nat → Prop} {ad : Nat → Nat} {r : Int32} {x' : St} (C0 : Cx E A RMO bb_MO_odds 15 (some .int) p s m args meth c) (hap : Ap ad ixM A)  {x : St} {v0 : Nat} {v1 : Int32} {v2 : Int32} {v3 : Int32} {v4 : Int32} (ho_v0 : isO ixM v0 6) (hf : ff_MO_odds x v0 v1 v2 v3 v4 = some (r, x')) {H : Heap} {locs : List Loc} {ls : Array Slot} (hP : Wd E ad ixM x H) (hS : va_S A s.heap H locs) (hl : lv_has ls 15 [(0, .ref (ad v0)), (1, .int v1), (2, .int v2), (3, .int v3), (4, .int v4)]) : W p l e rm_MO_odds s m args below meth c H locs 0 0 (MQ below (QX E ad ixM A (some (.int r)) x') args s 0 0 A) (F0 m 0 ls []) := by
  obtain ⟨hx, hb, hml, hr, hown, hts, hlk, hK⟩ := id C0
  have hf : bnd (ff_MO_isMourner x v0 v1) (fun r_1 x_2 => (if r_1 = 0 then bnd (ff_MO_bad x_2 v0) (fun r_5 x_6 => some (r_5, x_6)) else bnd (ff_MO_in x_2 v2 0 99) (fun r_8 x_9 => (if r_8 = 0 then bnd (ff_MO_bad x_9 v0) (fun r_12 x_13 => some (r_12, x_13)) else bnd (ff_MO_in x_9 v3 0 15) (fun r_15 x_16 => (if r_15 = 0 then bnd (ff_MO_bad x_16 v0) (fun r_19 x_20 => some (r_19, x_20)) else bnd (ff_MO_in x_16 v4 0 10) (fun r_22 x_23 => (if r_22 = 0 then bnd (ff_MO_bad x_23 v0) (fun r_26 x_27 => some (r_26, x_27)) else bnd (ff_MO_get x_23 v0 5) (fun r_29 x_30 => (if (r_29 + v3) ≤ 99 then bnd (ff_MO_findGriefs x_30 v0 (-1)) (fun _ x_34 => ff_MO_odds_64 FU x_34 v0 v1 v2 v3 v4 0) else bnd (ff_MO_bad x_30 v0) (fun r_81 x_82 => some (r_81, x_82)))))))))))) = some (r, x') := hf
  refine lv_aload_n hx hb dd_MO_odds_0 rfl (lv_at hl 0 rfl) ?_
  refine lv_iload_n hx hb dd_MO_odds_1 rfl (lv_at hl 1 rfl) ?_
  obtain ⟨r_1, x_2, c_3, hf⟩ := of_bnd hf
  refine cl_MO_94 C0 hap ho_v0 c_3 hP hS ⟨Nat.le_of_ble_eq_true rfl, Nat.le_of_ble_eq_true rfl⟩ hl.1 (Nat.le_of_ble_eq_true rfl) dd_MO_odds_2 ⟨Nat.le_refl _, Nat.le_refl _⟩ (fun H locs hP hS => ?_)
  refine lv_if_eq (tgt := 51) hx hb dd_MO_odds_5 (by decide) (fun h_4 => ?_) (fun h_4 => ?_)
  · have hf := (if_pos h_4).symm.trans hf
    refine lv_aload_n hx hb dd_MO_odds_51 rfl (lv_at hl 0 rfl) ?_
    obtain ⟨r_5, x_6, c_7, hf⟩ := of_bnd hf
    refine cl_MO_72 C0 hap ho_v0 c_7 hP hS ⟨Nat.le_of_ble_eq_true rfl, Nat.le_of_ble_eq_true rfl⟩ hl.1 (Nat.le_of_ble_eq_true rfl) dd_MO_odds_52 ⟨Nat.le_refl _, Nat.le_refl _⟩ (fun H locs hP hS => ?_)
    exact rrI C0 hP hS dd_MO_odds_55 hf
  · have hf := (if_neg h_4).symm.trans hf
    refine lv_iload_n hx hb dd_MO_odds_8 rfl (lv_at hl 2 rfl) ?_
    refine lv_iconst (v := 0) hx hb dd_MO_odds_9 (by decide) ?_
    refine lv_bipush (v := 99) hx hb dd_MO_odds_10 (by decide) ?_
    obtain ⟨r_8, x_9, c_10, hf⟩ := of_bnd hf
    refine cl_MO_64 C0 hap  c_10 hP hS ⟨Nat.le_of_ble_eq_true rfl, Nat.le_of_ble_eq_true rfl⟩ hl.1 (Nat.le_of_ble_eq_true rfl) dd_MO_odds_12 ⟨Nat.le_refl _, Nat.le_refl _⟩ (fun H locs hP hS => ?_)
    refine lv_if_eq (tgt := 51) hx hb dd_MO_odds_15 (by decide) (fun h_11 => ?_) (fun h_11 => ?_)
    · have hf := (if_pos h_11).symm.trans hf
      refine lv_aload_n hx hb dd_MO_odds_51 rfl (lv_at hl 0 rfl) ?_
      obtain ⟨r_12, x_13, c_14, hf⟩ := of_bnd hf
      refine cl_MO_72 C0 hap ho_v0 c_14 hP hS ⟨Nat.le_of_ble_eq_true rfl, Nat.le_of_ble_eq_true rfl⟩ hl.1 (Nat.le_of_ble_eq_true rfl) dd_MO_odds_52 ⟨Nat.le_refl _, Nat.le_refl _⟩ (fun H locs hP hS => ?_)
      exact rrI C0 hP hS dd_MO_odds_55 hf
    · have hf := (if_neg h_11).symm.trans hf
      refine lv_iload_n hx hb dd_MO_odds_18 rfl (lv_at hl 3 rfl) ?_
      refine lv_iconst (v := 0) hx hb dd_MO_odds_19 (by decide) ?_
      refine lv_bipush (v := 15) hx hb dd_MO_odds_20 (by decide) ?_
      obtain ⟨r_15, x_16, c_17, hf⟩ := of_bnd hf
      refine cl_MO_64 C0 hap  c_17 hP hS ⟨Nat.le_of_ble_eq_true rfl, Nat.le_of_ble_eq_true rfl⟩ hl.1 (Nat.le_of_ble_eq_true rfl) dd_MO_odds_22 ⟨Nat.le_refl _, Nat.le_refl _⟩ (fun H locs hP hS => ?_)
      refine lv_if_eq (tgt := 51) hx hb dd_MO_odds_25 (by decide) (fun h_18 => ?_) (fun h_18 => ?_)
      · have hf := (if_pos h_18).symm.trans hf
        refine lv_aload_n hx hb dd_MO_odds_51 rfl (lv_at hl 0 rfl) ?_
        obtain ⟨r_19, x_20, c_21, hf⟩ := of_bnd hf
        refine cl_MO_72 C0 hap ho_v0 c_21 hP hS ⟨Nat.le_of_ble_eq_true rfl, Nat.le_of_ble_eq_true rfl⟩ hl.1 (Nat.le_of_ble_eq_true rfl) dd_MO_odds_52 ⟨Nat.le_refl _, Nat.le_refl _⟩ (fun H locs hP hS => ?_)
        exact rrI C0 hP hS dd_MO_odds_55 hf
      · have hf := (if_neg h_18).symm.trans hf
        refine lv_iload hx hb dd_MO_odds_28 (lv_at hl 4 rfl) ?_
        refine lv_iconst (v := 0) hx hb dd_MO_odds_30 (by decide) ?_
        refine lv_bipush (v := 10) hx hb dd_MO_odds_31 (by decide) ?_
        obtain ⟨r_22, x_23, c_24, hf⟩ := of_bnd hf
        refine cl_MO_64 C0 hap  c_24 hP hS ⟨Nat.le_of_ble_eq_true rfl, Nat.le_of_ble_eq_true rfl⟩ hl.1 (Nat.le_of_ble_eq_true rfl) dd_MO_odds_33 ⟨Nat.le_refl _, Nat.le_refl _⟩ (fun H locs hP hS => ?_)
        refine lv_if_eq (tgt := 51) hx hb dd_MO_odds_36 (by decide) (fun h_25 => ?_) (fun h_25 => ?_)
        · have hf := (if_pos h_25).symm.trans hf
          refine lv_aload_n hx hb dd_MO_odds_51 rfl (lv_at hl 0 rfl) ?_
          obtain ⟨r_26, x_27, c_28, hf⟩ := of_bnd hf
          refine cl_MO_72 C0 hap ho_v0 c_28 hP hS ⟨Nat.le_of_ble_eq_true rfl, Nat.le_of_ble_eq_true rfl⟩ hl.1 (Nat.le_of_ble_eq_true rfl) dd_MO_odds_52 ⟨Nat.le_refl _, Nat.le_refl _⟩ (fun H locs hP hS => ?_)
          exact rrI C0 hP hS dd_MO_odds_55 hf
        · have hf := (if_neg h_25).symm.trans hf
          refine lv_aload_n hx hb dd_MO_odds_39 rfl (lv_at hl 0 rfl) ?_
          refine lv_iconst (v := 5) hx hb dd_MO_odds_40 (by decide) ?_
          obtain ⟨r_29, x_30, c_31, hf⟩ := of_bnd hf
          refine cl_MO_60 C0 hap ho_v0 c_31 hP hS ⟨Nat.le_of_ble_eq_true rfl, Nat.le_of_ble_eq_true rfl⟩ hl.1 (Nat.le_of_ble_eq_true rfl) dd_MO_odds_41 ⟨Nat.le_refl _, Nat.le_refl _⟩ (fun H locs hP hS => ?_)
          refine lv_iload_n hx hb dd_MO_odds_44 rfl (lv_at hl 3 rfl) ?_
          refine lv_iadd hx hb dd_MO_odds_45 ?_
          refine lv_bipush (v := 99) hx hb dd_MO_odds_46 (by decide) ?_
          refine lv_icmp_le (tgt := 56) hx hb dd_MO_odds_48 (by decide) (fun h_32 => ?_) (fun h_32 => ?_)
          · have hf := (if_pos h_32).symm.trans hf
            refine lv_aload_n hx hb dd_MO_odds_56 rfl (lv_at hl 0 rfl) ?_
            refine lv_iconst (v := -1) hx hb dd_MO_odds_57 (by decide) ?_
            obtain ⟨_, x_34, c_35, hf⟩ := of_bnd hf
            refine cl_MO_189 C0 hap ho_v0 c_35 hP hS ⟨Nat.le_of_ble_eq_true rfl, Nat.le_of_ble_eq_true rfl⟩ hl.1 (Nat.le_of_ble_eq_true rfl) dd_MO_odds_58 ⟨Nat.le_refl _, Nat.le_refl _⟩ (fun H locs hP hS => ?_)
            refine lv_iconst (v := 0) hx hb dd_MO_odds_61 (by decide) ?_
            refine lv_istore (lv' := [(5, .int 0), (0, .ref (ad v0)), (1, .int v1), (2, .int v2), (3, .int v3), (4, .int v4)]) hx hb dd_MO_odds_62 hl (by decide) rfl (fun ls hl => ?_)
            exact ww_MO_odds_64 C0 hap  FU x_34 v0 v1 v2 v3 v4 0 ho_v0 hf _ _ _ hP hS (lv_sub hl [1, 2, 3, 4, 5, 0] rfl)
          · have hf := (if_neg h_32).symm.trans hf
            refine lv_aload_n hx hb dd_MO_odds_51 rfl (lv_at hl 0 rfl) ?_
            obtain ⟨r_81, x_82, c_83, hf⟩ := of_bnd hf
            refine cl_MO_72 C0 hap ho_v0 c_83 hP hS ⟨Nat.le_of_ble_eq_true rfl, Nat.le_of_ble_eq_true rfl⟩ hl.1 (Nat.le_of_ble_eq_true rfl) dd_MO_odds_52 ⟨Nat.le_refl _, Nat.le_refl _⟩ (fun H locs hP hS => ?_)
            exact rrI C0 hP hS dd_MO_odds_55 hf
theorem cc_MO_odds {l : Launch} {E : Ev} {A : Nat → Prop} {ad : Nat → Nat} (hap : Ap ad ixM A) {x x' : St} {v0 : Nat} {v1 : Int32} {v2 : Int32} {v3 : Int32} {v4 : Int32} {r : Int32} (ho_v0 : isO ixM v0 6) (hf : ff_MO_odds x v0 v1 v2 v3 v4 = some (r, x')) : Met l yy_MO_odds (Cond.code yy_MO_odds bb_MO_odds 15 (some .int) :: gtb) rm_MO_odds (va_Pc [.ref (ad v0), .int v1, .int v2, .int v3, .int v4] (PB E A ad ixM x)) (QX E ad ixM A (some (.int r)) x') 0 0 A := by
  exact enter (by decide) (Nat.le_of_ble_eq_true rfl) (fun p e s m below meth c ls C0 hP hS hl => ww_MO_odds C0 hap ho_v0 hf hP hS hl)
abbrev rm_MO_harm : Room := { frames := 5, cells := 0, slots := 0, locals := 113 }
theorem dd_MO_harm_0 : decode bb_MO_harm 0 = .ok (.iload_n 1, 1) := by decide +kernel
theorem dd_MO_harm_1 : decode bb_MO_harm 1 = .ok (.iconst 0, 1) := by decide +kernel
theorem dd_MO_harm_2 : decode bb_MO_harm 2 = .ok (.aload_n 0, 1) := by decide +kernel
theorem dd_MO_harm_3 : decode bb_MO_harm 3 = .ok (.iconst 3, 1) := by decide +kernel
theorem dd_MO_harm_4 : decode bb_MO_harm 4 = .ok (.invokevirtual 60, 3) := by decide +kernel
theorem dd_MO_harm_7 : decode bb_MO_harm 7 = .ok (.iconst 1, 1) := by decide +kernel
theorem dd_MO_harm_8 : decode bb_MO_harm 8 = .ok (.isub, 1) := by decide +kernel
theorem dd_MO_harm_9 : decode bb_MO_harm 9 = .ok (.invokestatic 64, 3) := by decide +kernel
theorem dd_MO_harm_12 : decode bb_MO_harm 12 = .ok (.ifCond .ne 11, 3) := by decide +kernel
theorem dd_MO_harm_15 : decode bb_MO_harm 15 = .ok (.aload_n 0, 1) := by decide +kernel
theorem dd_MO_harm_16 : decode bb_MO_harm 16 = .ok (.invokevirtual 72, 3) := by decide +kernel
theorem dd_MO_harm_19 : decode bb_MO_harm 19 = .ok (.pop, 1) := by decide +kernel
theorem dd_MO_harm_20 : decode bb_MO_harm 20 = .ok (.bipush (-10), 2) := by decide +kernel
theorem dd_MO_harm_22 : decode bb_MO_harm 22 = .ok (.ireturn, 1) := by decide +kernel
theorem dd_MO_harm_23 : decode bb_MO_harm 23 = .ok (.aload_n 0, 1) := by decide +kernel
theorem dd_MO_harm_24 : decode bb_MO_harm 24 = .ok (.iconst (-1), 1) := by decide +kernel
theorem dd_MO_harm_25 : decode bb_MO_harm 25 = .ok (.invokevirtual 189, 3) := by decide +kernel
theorem dd_MO_harm_28 : decode bb_MO_harm 28 = .ok (.iconst 0, 1) := by decide +kernel
theorem dd_MO_harm_29 : decode bb_MO_harm 29 = .ok (.istore_n 2, 1) := by decide +kernel
theorem dd_MO_harm_30 : decode bb_MO_harm 30 = .ok (.iload_n 2, 1) := by decide +kernel
theorem dd_MO_harm_31 : decode bb_MO_harm 31 = .ok (.aload_n 0, 1) := by decide +kernel
theorem dd_MO_harm_32 : decode bb_MO_harm 32 = .ok (.iconst 1, 1) := by decide +kernel
theorem dd_MO_harm_33 : decode bb_MO_harm 33 = .ok (.invokevirtual 60, 3) := by decide +kernel
theorem dd_MO_harm_36 : decode bb_MO_harm 36 = .ok (.if_icmp .ge 32, 3) := by decide +kernel
theorem dd_MO_harm_39 : decode bb_MO_harm 39 = .ok (.aload_n 0, 1) := by decide +kernel
theorem dd_MO_harm_40 : decode bb_MO_harm 40 = .ok (.getfield 50, 3) := by decide +kernel
theorem dd_MO_harm_43 : decode bb_MO_harm 43 = .ok (.iload_n 2, 1) := by decide +kernel
theorem dd_MO_harm_44 : decode bb_MO_harm 44 = .ok (.aload_n 0, 1) := by decide +kernel
theorem dd_MO_harm_45 : decode bb_MO_harm 45 = .ok (.iload_n 2, 1) := by decide +kernel
theorem dd_MO_harm_46 : decode bb_MO_harm 46 = .ok (.invokevirtual 198, 3) := by decide +kernel
theorem dd_MO_harm_49 : decode bb_MO_harm 49 = .ok (.ifCond .eq 11, 3) := by decide +kernel
theorem dd_MO_harm_52 : decode bb_MO_harm 52 = .ok (.aload_n 0, 1) := by decide +kernel
theorem dd_MO_harm_53 : decode bb_MO_harm 53 = .ok (.iload_n 2, 1) := by decide +kernel
theorem dd_MO_harm_54 : decode bb_MO_harm 54 = .ok (.invokevirtual 195, 3) := by decide +kernel
theorem dd_MO_harm_57 : decode bb_MO_harm 57 = .ok (.goto 4, 3) := by decide +kernel
theorem dd_MO_harm_60 : decode bb_MO_harm 60 = .ok (.iconst (-1), 1) := by decide +kernel
theorem dd_MO_harm_61 : decode bb_MO_harm 61 = .ok (.iastore, 1) := by decide +kernel
theorem dd_MO_harm_62 : decode bb_MO_harm 62 = .ok (.iinc 2 1, 3) := by decide +kernel
theorem dd_MO_harm_65 : decode bb_MO_harm 65 = .ok (.goto (-35), 3) := by decide +kernel
theorem dd_MO_harm_68 : decode bb_MO_harm 68 = .ok (.aload_n 0, 1) := by decide +kernel
theorem dd_MO_harm_69 : decode bb_MO_harm 69 = .ok (.iload_n 1, 1) := by decide +kernel
theorem dd_MO_harm_70 : decode bb_MO_harm 70 = .ok (.invokevirtual 189, 3) := by decide +kernel
theorem dd_MO_harm_73 : decode bb_MO_harm 73 = .ok (.iconst 0, 1) := by decide +kernel
theorem dd_MO_harm_74 : decode bb_MO_harm 74 = .ok (.istore_n 2, 1) := by decide +kernel
theorem dd_MO_harm_75 : decode bb_MO_harm 75 = .ok (.iconst 0, 1) := by decide +kernel
theorem dd_MO_harm_76 : decode bb_MO_harm 76 = .ok (.istore_n 3, 1) := by decide +kernel
theorem dd_MO_harm_77 : decode bb_MO_harm 77 = .ok (.iload_n 3, 1) := by decide +kernel
theorem dd_MO_harm_78 : decode bb_MO_harm 78 = .ok (.aload_n 0, 1) := by decide +kernel
theorem dd_MO_harm_79 : decode bb_MO_harm 79 = .ok (.iconst 1, 1) := by decide +kernel
theorem dd_MO_harm_80 : decode bb_MO_harm 80 = .ok (.invokevirtual 60, 3) := by decide +kernel
theorem dd_MO_harm_83 : decode bb_MO_harm 83 = .ok (.if_icmp .ge 62, 3) := by decide +kernel
theorem dd_MO_harm_86 : decode bb_MO_harm 86 = .ok (.aload_n 0, 1) := by decide +kernel
theorem dd_MO_harm_87 : decode bb_MO_harm 87 = .ok (.iload_n 3, 1) := by decide +kernel
theorem dd_MO_harm_88 : decode bb_MO_harm 88 = .ok (.invokevirtual 198, 3) := by decide +kernel
theorem dd_MO_harm_91 : decode bb_MO_harm 91 = .ok (.ifCond .eq 11, 3) := by decide +kernel
theorem dd_MO_harm_94 : decode bb_MO_harm 94 = .ok (.aload_n 0, 1) := by decide +kernel
theorem dd_MO_harm_95 : decode bb_MO_harm 95 = .ok (.iload_n 3, 1) := by decide +kernel
theorem dd_MO_harm_96 : decode bb_MO_harm 96 = .ok (.invokevirtual 195, 3) := by decide +kernel
theorem dd_MO_harm_99 : decode bb_MO_harm 99 = .ok (.goto 4, 3) := by decide +kernel
theorem dd_MO_harm_102 : decode bb_MO_harm 102 = .ok (.iconst (-1), 1) := by decide +kernel
theorem dd_MO_harm_103 : decode bb_MO_harm 103 = .ok (.istore 4, 2) := by decide +kernel
theorem dd_MO_harm_105 : decode bb_MO_harm 105 = .ok (.iload_n 2, 1) := by decide +kernel
theorem dd_MO_harm_106 : decode bb_MO_harm 106 = .ok (.iload 4, 2) := by decide +kernel
theorem dd_MO_harm_108 : decode bb_MO_harm 108 = .ok (.aload_n 0, 1) := by decide +kernel
theorem dd_MO_harm_109 : decode bb_MO_harm 109 = .ok (.getfield 50, 3) := by decide +kernel
theorem dd_MO_harm_112 : decode bb_MO_harm 112 = .ok (.iload_n 3, 1) := by decide +kernel
theorem dd_MO_harm_113 : decode bb_MO_harm 113 = .ok (.iaload, 1) := by decide +kernel
theorem dd_MO_harm_114 : decode bb_MO_harm 114 = .ok (.if_icmp .le 7, 3) := by decide +kernel
theorem dd_MO_harm_117 : decode bb_MO_harm 117 = .ok (.iconst 1, 1) := by decide +kernel
theorem dd_MO_harm_118 : decode bb_MO_harm 118 = .ok (.goto 19, 3) := by decide +kernel
theorem dd_MO_harm_121 : decode bb_MO_harm 121 = .ok (.iload 4, 2) := by decide +kernel
theorem dd_MO_harm_123 : decode bb_MO_harm 123 = .ok (.aload_n 0, 1) := by decide +kernel
theorem dd_MO_harm_124 : decode bb_MO_harm 124 = .ok (.getfield 50, 3) := by decide +kernel
theorem dd_MO_harm_127 : decode bb_MO_harm 127 = .ok (.iload_n 3, 1) := by decide +kernel
theorem dd_MO_harm_128 : decode bb_MO_harm 128 = .ok (.iaload, 1) := by decide +kernel
theorem dd_MO_harm_129 : decode bb_MO_harm 129 = .ok (.if_icmp .ge 7, 3) := by decide +kernel
theorem dd_MO_harm_132 : decode bb_MO_harm 132 = .ok (.iconst (-1), 1) := by decide +kernel
theorem dd_MO_harm_133 : decode bb_MO_harm 133 = .ok (.goto 4, 3) := by decide +kernel
theorem dd_MO_harm_136 : decode bb_MO_harm 136 = .ok (.iconst 0, 1) := by decide +kernel
theorem dd_MO_harm_137 : decode bb_MO_harm 137 = .ok (.iadd, 1) := by decide +kernel
theorem dd_MO_harm_138 : decode bb_MO_harm 138 = .ok (.istore_n 2, 1) := by decide +kernel
theorem dd_MO_harm_139 : decode bb_MO_harm 139 = .ok (.iinc 3 1, 3) := by decide +kernel
theorem dd_MO_harm_142 : decode bb_MO_harm 142 = .ok (.goto (-65), 3) := by decide +kernel
theorem dd_MO_harm_145 : decode bb_MO_harm 145 = .ok (.iload_n 2, 1) := by decide +kernel
theorem dd_MO_harm_146 : decode bb_MO_harm 146 = .ok (.ireturn, 1) := by decide +kernel
def ff_MO_harm_103 (k_77 : St → Nat → Int32 → Int32 → Option (Int32 × St)) (x : St) (v0 : Nat) (v2 : Int32) (v3 : Int32) (w0 : Int32) : Option (Int32 × St) := (if ixb v3 (ln (rf v0 21)) = true then (if w0 ≤ (gi x (rf v0 21) (ix v3)) then (if ixb v3 (ln (rf v0 21)) = true then (if (gi x (rf v0 21) (ix v3)) ≤ w0 then k_77 x v0 (v2 + 0) (v3 + 1) else k_77 x v0 (v2 + (-1)) (v3 + 1)) else none) else k_77 x v0 (v2 + 1) (v3 + 1)) else none)
def ff_MO_harm_77  : Nat → St → Nat → Int32 → Int32 → Option (Int32 × St)
  | 0, _, _, _, _ => none
  | n + 1, x, v0, v2, v3 => bnd (ff_MO_get x v0 1) (fun r_18 x_19 => (if r_18 ≤ v3 then some (v2, x_19) else bnd (ff_MO_isBoiled x_19 v0 v3) (fun r_22 x_23 => (if r_22 = 0 then ff_MO_harm_103 (ff_MO_harm_77 n) x_23 v0 v2 v3 (-1) else bnd (ff_MO_opensBy x_23 v0 v3) (fun r_30 x_31 => ff_MO_harm_103 (ff_MO_harm_77 n) x_31 v0 v2 v3 r_30)))))
def ff_MO_harm_68  (x : St) (v0 : Nat) (v1 : Int32) : Option (Int32 × St) := bnd (ff_MO_findGriefs x v0 v1) (fun _ x_16 => ff_MO_harm_77 FU x_16 v0 0 0)
def ff_MO_harm_30  : Nat → St → Nat → Int32 → Int32 → Option (Int32 × St)
  | 0, _, _, _, _ => none
  | n + 1, x, v0, v1, v2 => bnd (ff_MO_get x v0 1) (fun r_11 x_12 => (if r_11 ≤ v2 then ff_MO_harm_68 x_12 v0 v1 else bnd (ff_MO_isBoiled x_12 v0 v2) (fun r_33 x_34 => (if r_33 = 0 then (if ixb v2 (ln (rf v0 21)) = true then st (si x_34 (rf v0 21) (ix v2) (-1)) (fun x_38 => ff_MO_harm_30 n x_38 v0 v1 (v2 + 1)) else none) else bnd (ff_MO_opensBy x_34 v0 v2) (fun r_39 x_40 => (if ixb v2 (ln (rf v0 21)) = true then st (si x_40 (rf v0 21) (ix v2) r_39) (fun x_43 => ff_MO_harm_30 n x_43 v0 v1 (v2 + 1)) else none))))))
def ff_MO_harm  (x : St) (v0 : Nat) (v1 : Int32) : Option (Int32 × St) := bnd (ff_MO_get x v0 3) (fun r_1 x_2 => bnd (ff_MO_in x_2 v1 0 (r_1 - 1)) (fun r_4 x_5 => (if r_4 = 0 then bnd (ff_MO_bad x_5 v0) (fun r_44 x_45 => some ((-10), x_45)) else bnd (ff_MO_findGriefs x_5 v0 (-1)) (fun _ x_9 => ff_MO_harm_30 FU x_9 v0 v1 0))))
set_option maxHeartbeats 4000000 in
set_option maxRecDepth 100000 in
theorem ww_MO_harm_103 {p : Program} {l : Launch} {e : Env} {s : State} {m : MethodId} {args : Array Value} {below : List Frame} {meth : Method} {c : Code} {E : Ev} {A : Nat → Prop} {ad : Nat → Nat} {r : Int32} {x' : St} (C0 : Cx E A RMO bb_MO_harm 5 (some .int) p s m args meth c) (hap : Ap ad ixM A) {k_77 : St → Nat → Int32 → Int32 → Option (Int32 × St)} (hk_77 : ∀ (x : St) (v0 : Nat) (v2 : Int32) (v3 : Int32), (isO ixM v0 6) → k_77 x v0 v2 v3 = some (r, x') → ∀ (H : Heap) (locs : List Loc) (ls : Array Slot), Wd E ad ixM x H → va_S A s.heap H locs → lv_has ls 5 [(0, .ref (ad v0)), (2, .int v2), (3, .int v3)] → W p l e rm_MO_harm s m args below meth c H locs 0 0 (MQ below (QX E ad ixM A (some (.int r)) x') args s 0 0 A) (F0 m 77 ls [])) {x : St} {v0 : Nat} {v2 : Int32} {v3 : Int32} {w0 : Int32} (ho_v0 : isO ixM v0 6) (hf : ff_MO_harm_103 k_77 x v0 v2 v3 w0 = some (r, x')) {H : Heap} {locs : List Loc} {ls : Array Slot} (hP : Wd E ad ixM x H) (hS : va_S A s.heap H locs) (hl : lv_has ls 5 [(0, .ref (ad v0)), (2, .int v2), (3, .int v3)]) : W p l e rm_MO_harm s m args below meth c H locs 0 0 (MQ below (QX E ad ixM A (some (.int r)) x') args s 0 0 A) (F0 m 103 ls [.int w0]) := by
  obtain ⟨hx, hb, hml, hr, hown, hts, hlk, hK⟩ := id C0
  have hf : (if ixb v3 (ln (rf v0 21)) = true then (if w0 ≤ (gi x (rf v0 21) (ix v3)) then (if ixb v3 (ln (rf v0 21)) = true then (if (gi x (rf v0 21) (ix v3)) ≤ w0 then k_77 x v0 (v2 + 0) (v3 + 1) else k_77 x v0 (v2 + (-1)) (v3 + 1)) else none) else k_77 x v0 (v2 + 1) (v3 + 1)) else none) = some (r, x') := hf
  refine lv_istore (lv' := [(4, .int w0), (0, .ref (ad v0)), (2, .int v2), (3, .int v3)]) hx hb dd_MO_harm_103 hl (by decide) rfl (fun ls hl => ?_)
  refine lv_iload_n hx hb dd_MO_harm_105 rfl (lv_at hl 2 rfl) ?_
  refine lv_iload hx hb dd_MO_harm_106 (lv_at hl 0 rfl) ?_
  refine lv_aload_n hx hb dd_MO_harm_108 rfl (lv_at hl 1 rfl) ?_
  refine gf_MO_50 C0 hP ho_v0 dd_MO_harm_109 ?_
  refine lv_iload_n hx hb dd_MO_harm_112 rfl (lv_at hl 3 rfl) ?_
  obtain ⟨h_26, hf⟩ := of_ifb hf
  refine raI C0 hP (tp_6_21 ho_v0) h_26 dd_MO_harm_113 ?_
  refine lv_icmp_le (tgt := 121) hx hb dd_MO_harm_114 (by decide) (fun h_27 => ?_) (fun h_27 => ?_)
  · have hf := (if_pos h_27).symm.trans hf
    refine lv_iload hx hb dd_MO_harm_121 (lv_at hl 0 rfl) ?_
    refine lv_aload_n hx hb dd_MO_harm_123 rfl (lv_at hl 1 rfl) ?_
    refine gf_MO_50 C0 hP ho_v0 dd_MO_harm_124 ?_
    refine lv_iload_n hx hb dd_MO_harm_127 rfl (lv_at hl 3 rfl) ?_
    obtain ⟨h_28, hf⟩ := of_ifb hf
    refine raI C0 hP (tp_6_21 ho_v0) h_28 dd_MO_harm_128 ?_
    refine lv_icmp_ge (tgt := 136) hx hb dd_MO_harm_129 (by decide) (fun h_29 => ?_) (fun h_29 => ?_)
    · have hf := (if_pos h_29).symm.trans hf
      refine lv_iconst (v := 0) hx hb dd_MO_harm_136 (by decide) ?_
      refine lv_iadd hx hb dd_MO_harm_137 ?_
      refine lv_istore_n (lv' := [(2, .int (v2 + 0)), (4, .int w0), (0, .ref (ad v0)), (3, .int v3)]) hx hb dd_MO_harm_138 rfl hl (by decide) rfl (fun ls hl => ?_)
      refine lv_iinc (v := v3 + 1) (lv' := [(3, .int (v3 + 1)), (2, .int (v2 + 0)), (4, .int w0), (0, .ref (ad v0))]) hx hb dd_MO_harm_139 hl (k := 3) rfl rfl (by decide) rfl (fun ls hl => ?_)
      refine lv_goto (tgt := 77) hx hb dd_MO_harm_142 (by decide) ?_
      exact hk_77 x v0 (v2 + 0) (v3 + 1) ho_v0 hf _ _ _ hP hS (lv_sub hl [3, 1, 0] rfl)
    · have hf := (if_neg h_29).symm.trans hf
      refine lv_iconst (v := -1) hx hb dd_MO_harm_132 (by decide) ?_
      refine lv_goto (tgt := 137) hx hb dd_MO_harm_133 (by decide) ?_
      refine lv_iadd hx hb dd_MO_harm_137 ?_
      refine lv_istore_n (lv' := [(2, .int (v2 + (-1))), (4, .int w0), (0, .ref (ad v0)), (3, .int v3)]) hx hb dd_MO_harm_138 rfl hl (by decide) rfl (fun ls hl => ?_)
      refine lv_iinc (v := v3 + 1) (lv' := [(3, .int (v3 + 1)), (2, .int (v2 + (-1))), (4, .int w0), (0, .ref (ad v0))]) hx hb dd_MO_harm_139 hl (k := 3) rfl rfl (by decide) rfl (fun ls hl => ?_)
      refine lv_goto (tgt := 77) hx hb dd_MO_harm_142 (by decide) ?_
      exact hk_77 x v0 (v2 + (-1)) (v3 + 1) ho_v0 hf _ _ _ hP hS (lv_sub hl [3, 1, 0] rfl)
  · have hf := (if_neg h_27).symm.trans hf
    refine lv_iconst (v := 1) hx hb dd_MO_harm_117 (by decide) ?_
    refine lv_goto (tgt := 137) hx hb dd_MO_harm_118 (by decide) ?_
    refine lv_iadd hx hb dd_MO_harm_137 ?_
    refine lv_istore_n (lv' := [(2, .int (v2 + 1)), (4, .int w0), (0, .ref (ad v0)), (3, .int v3)]) hx hb dd_MO_harm_138 rfl hl (by decide) rfl (fun ls hl => ?_)
    refine lv_iinc (v := v3 + 1) (lv' := [(3, .int (v3 + 1)), (2, .int (v2 + 1)), (4, .int w0), (0, .ref (ad v0))]) hx hb dd_MO_harm_139 hl (k := 3) rfl rfl (by decide) rfl (fun ls hl => ?_)
    refine lv_goto (tgt := 77) hx hb dd_MO_harm_142 (by decide) ?_
    exact hk_77 x v0 (v2 + 1) (v3 + 1) ho_v0 hf _ _ _ hP hS (lv_sub hl [3, 1, 0] rfl)
set_option maxHeartbeats 4000000 in
set_option maxRecDepth 100000 in
theorem ww_MO_harm_77 {p : Program} {l : Launch} {e : Env} {s : State} {m : MethodId} {args : Array Value} {below : List Frame} {meth : Method} {c : Code} {E : Ev} {A : Nat → Prop} {ad : Nat → Nat} {r : Int32} {x' : St} (C0 : Cx E A RMO bb_MO_harm 5 (some .int) p s m args meth c) (hap : Ap ad ixM A)  : ∀ (n : Nat), ∀ (x : St) (v0 : Nat) (v2 : Int32) (v3 : Int32), (isO ixM v0 6) → ff_MO_harm_77 n x v0 v2 v3 = some (r, x') → ∀ (H : Heap) (locs : List Loc) (ls : Array Slot), Wd E ad ixM x H → va_S A s.heap H locs → lv_has ls 5 [(0, .ref (ad v0)), (2, .int v2), (3, .int v3)] → W p l e rm_MO_harm s m args below meth c H locs 0 0 (MQ below (QX E ad ixM A (some (.int r)) x') args s 0 0 A) (F0 m 77 ls []) := by
  obtain ⟨hx, hb, hml, hr, hown, hts, hlk, hK⟩ := id C0
  intro n
  induction n with
  | zero => intro x v0 v2 v3 ho_v0 hf; exact of_no hf
  | succ n ih =>
    intro x v0 v2 v3 ho_v0 hf H locs ls hP hS hl
    have hf : bnd (ff_MO_get x v0 1) (fun r_18 x_19 => (if r_18 ≤ v3 then some (v2, x_19) else bnd (ff_MO_isBoiled x_19 v0 v3) (fun r_22 x_23 => (if r_22 = 0 then ff_MO_harm_103 (ff_MO_harm_77 n) x_23 v0 v2 v3 (-1) else bnd (ff_MO_opensBy x_23 v0 v3) (fun r_30 x_31 => ff_MO_harm_103 (ff_MO_harm_77 n) x_31 v0 v2 v3 r_30))))) = some (r, x') := hf
    refine lv_iload_n hx hb dd_MO_harm_77 rfl (lv_at hl 2 rfl) ?_
    refine lv_aload_n hx hb dd_MO_harm_78 rfl (lv_at hl 0 rfl) ?_
    refine lv_iconst (v := 1) hx hb dd_MO_harm_79 (by decide) ?_
    obtain ⟨r_18, x_19, c_20, hf⟩ := of_bnd hf
    refine cl_MO_60 C0 hap ho_v0 c_20 hP hS ⟨Nat.le_of_ble_eq_true rfl, Nat.le_of_ble_eq_true rfl⟩ hl.1 (Nat.le_of_ble_eq_true rfl) dd_MO_harm_80 ⟨Nat.le_refl _, Nat.le_refl _⟩ (fun H locs hP hS => ?_)
    refine lv_icmp_ge (tgt := 145) hx hb dd_MO_harm_83 (by decide) (fun h_21 => ?_) (fun h_21 => ?_)
    · have hf := (if_pos h_21).symm.trans hf
      refine lv_iload_n hx hb dd_MO_harm_145 rfl (lv_at hl 1 rfl) ?_
      exact rrI C0 hP hS dd_MO_harm_146 hf
    · have hf := (if_neg h_21).symm.trans hf
      refine lv_aload_n hx hb dd_MO_harm_86 rfl (lv_at hl 0 rfl) ?_
      refine lv_iload_n hx hb dd_MO_harm_87 rfl (lv_at hl 2 rfl) ?_
      obtain ⟨r_22, x_23, c_24, hf⟩ := of_bnd hf
      refine cl_MO_198 C0 hap ho_v0 c_24 hP hS ⟨Nat.le_of_ble_eq_true rfl, Nat.le_of_ble_eq_true rfl⟩ hl.1 (Nat.le_of_ble_eq_true rfl) dd_MO_harm_88 ⟨Nat.le_refl _, Nat.le_refl _⟩ (fun H locs hP hS => ?_)
      refine lv_if_eq (tgt := 102) hx hb dd_MO_harm_91 (by decide) (fun h_25 => ?_) (fun h_25 => ?_)
      · have hf := (if_pos h_25).symm.trans hf
        refine lv_iconst (v := -1) hx hb dd_MO_harm_102 (by decide) ?_
        exact ww_MO_harm_103 C0 hap ih ho_v0 hf hP hS (lv_sub hl [0, 1, 2] rfl)
      · have hf := (if_neg h_25).symm.trans hf
        refine lv_aload_n hx hb dd_MO_harm_94 rfl (lv_at hl 0 rfl) ?_
        refine lv_iload_n hx hb dd_MO_harm_95 rfl (lv_at hl 2 rfl) ?_
        obtain ⟨r_30, x_31, c_32, hf⟩ := of_bnd hf
        refine cl_MO_195 C0 hap ho_v0 c_32 hP hS ⟨Nat.le_of_ble_eq_true rfl, Nat.le_of_ble_eq_true rfl⟩ hl.1 (Nat.le_of_ble_eq_true rfl) dd_MO_harm_96 ⟨Nat.le_refl _, Nat.le_refl _⟩ (fun H locs hP hS => ?_)
        refine lv_goto (tgt := 103) hx hb dd_MO_harm_99 (by decide) ?_
        exact ww_MO_harm_103 C0 hap ih ho_v0 hf hP hS (lv_sub hl [0, 1, 2] rfl)
set_option maxHeartbeats 4000000 in
set_option maxRecDepth 100000 in
theorem ww_MO_harm_68 {p : Program} {l : Launch} {e : Env} {s : State} {m : MethodId} {args : Array Value} {below : List Frame} {meth : Method} {c : Code} {E : Ev} {A : Nat → Prop} {ad : Nat → Nat} {r : Int32} {x' : St} (C0 : Cx E A RMO bb_MO_harm 5 (some .int) p s m args meth c) (hap : Ap ad ixM A)  {x : St} {v0 : Nat} {v1 : Int32} (ho_v0 : isO ixM v0 6) (hf : ff_MO_harm_68 x v0 v1 = some (r, x')) {H : Heap} {locs : List Loc} {ls : Array Slot} (hP : Wd E ad ixM x H) (hS : va_S A s.heap H locs) (hl : lv_has ls 5 [(0, .ref (ad v0)), (1, .int v1)]) : W p l e rm_MO_harm s m args below meth c H locs 0 0 (MQ below (QX E ad ixM A (some (.int r)) x') args s 0 0 A) (F0 m 68 ls []) := by
  obtain ⟨hx, hb, hml, hr, hown, hts, hlk, hK⟩ := id C0
  have hf : bnd (ff_MO_findGriefs x v0 v1) (fun _ x_16 => ff_MO_harm_77 FU x_16 v0 0 0) = some (r, x') := hf
  refine lv_aload_n hx hb dd_MO_harm_68 rfl (lv_at hl 0 rfl) ?_
  refine lv_iload_n hx hb dd_MO_harm_69 rfl (lv_at hl 1 rfl) ?_
  obtain ⟨_, x_16, c_17, hf⟩ := of_bnd hf
  refine cl_MO_189 C0 hap ho_v0 c_17 hP hS ⟨Nat.le_of_ble_eq_true rfl, Nat.le_of_ble_eq_true rfl⟩ hl.1 (Nat.le_of_ble_eq_true rfl) dd_MO_harm_70 ⟨Nat.le_refl _, Nat.le_refl _⟩ (fun H locs hP hS => ?_)
  refine lv_iconst (v := 0) hx hb dd_MO_harm_73 (by decide) ?_
  refine lv_istore_n (lv' := [(2, .int 0), (0, .ref (ad v0)), (1, .int v1)]) hx hb dd_MO_harm_74 rfl hl (by decide) rfl (fun ls hl => ?_)
  refine lv_iconst (v := 0) hx hb dd_MO_harm_75 (by decide) ?_
  refine lv_istore_n (lv' := [(3, .int 0), (2, .int 0), (0, .ref (ad v0)), (1, .int v1)]) hx hb dd_MO_harm_76 rfl hl (by decide) rfl (fun ls hl => ?_)
  exact ww_MO_harm_77 C0 hap  FU x_16 v0 0 0 ho_v0 hf _ _ _ hP hS (lv_sub hl [2, 1, 0] rfl)
set_option maxHeartbeats 4000000 in
set_option maxRecDepth 100000 in
theorem ww_MO_harm_30 {p : Program} {l : Launch} {e : Env} {s : State} {m : MethodId} {args : Array Value} {below : List Frame} {meth : Method} {c : Code} {E : Ev} {A : Nat → Prop} {ad : Nat → Nat} {r : Int32} {x' : St} (C0 : Cx E A RMO bb_MO_harm 5 (some .int) p s m args meth c) (hap : Ap ad ixM A)  : ∀ (n : Nat), ∀ (x : St) (v0 : Nat) (v1 : Int32) (v2 : Int32), (isO ixM v0 6) → ff_MO_harm_30 n x v0 v1 v2 = some (r, x') → ∀ (H : Heap) (locs : List Loc) (ls : Array Slot), Wd E ad ixM x H → va_S A s.heap H locs → lv_has ls 5 [(0, .ref (ad v0)), (1, .int v1), (2, .int v2)] → W p l e rm_MO_harm s m args below meth c H locs 0 0 (MQ below (QX E ad ixM A (some (.int r)) x') args s 0 0 A) (F0 m 30 ls []) := by
  obtain ⟨hx, hb, hml, hr, hown, hts, hlk, hK⟩ := id C0
  intro n
  induction n with
  | zero => intro x v0 v1 v2 ho_v0 hf; exact of_no hf
  | succ n ih =>
    intro x v0 v1 v2 ho_v0 hf H locs ls hP hS hl
    have hf : bnd (ff_MO_get x v0 1) (fun r_11 x_12 => (if r_11 ≤ v2 then ff_MO_harm_68 x_12 v0 v1 else bnd (ff_MO_isBoiled x_12 v0 v2) (fun r_33 x_34 => (if r_33 = 0 then (if ixb v2 (ln (rf v0 21)) = true then st (si x_34 (rf v0 21) (ix v2) (-1)) (fun x_38 => ff_MO_harm_30 n x_38 v0 v1 (v2 + 1)) else none) else bnd (ff_MO_opensBy x_34 v0 v2) (fun r_39 x_40 => (if ixb v2 (ln (rf v0 21)) = true then st (si x_40 (rf v0 21) (ix v2) r_39) (fun x_43 => ff_MO_harm_30 n x_43 v0 v1 (v2 + 1)) else none)))))) = some (r, x') := hf
    refine lv_iload_n hx hb dd_MO_harm_30 rfl (lv_at hl 2 rfl) ?_
    refine lv_aload_n hx hb dd_MO_harm_31 rfl (lv_at hl 0 rfl) ?_
    refine lv_iconst (v := 1) hx hb dd_MO_harm_32 (by decide) ?_
    obtain ⟨r_11, x_12, c_13, hf⟩ := of_bnd hf
    refine cl_MO_60 C0 hap ho_v0 c_13 hP hS ⟨Nat.le_of_ble_eq_true rfl, Nat.le_of_ble_eq_true rfl⟩ hl.1 (Nat.le_of_ble_eq_true rfl) dd_MO_harm_33 ⟨Nat.le_refl _, Nat.le_refl _⟩ (fun H locs hP hS => ?_)
    refine lv_icmp_ge (tgt := 68) hx hb dd_MO_harm_36 (by decide) (fun h_14 => ?_) (fun h_14 => ?_)
    · have hf := (if_pos h_14).symm.trans hf
      exact ww_MO_harm_68 C0 hap  ho_v0 hf hP hS (lv_sub hl [0, 1] rfl)
    · have hf := (if_neg h_14).symm.trans hf
      refine lv_aload_n hx hb dd_MO_harm_39 rfl (lv_at hl 0 rfl) ?_
      refine gf_MO_50 C0 hP ho_v0 dd_MO_harm_40 ?_
      refine lv_iload_n hx hb dd_MO_harm_43 rfl (lv_at hl 2 rfl) ?_
      refine lv_aload_n hx hb dd_MO_harm_44 rfl (lv_at hl 0 rfl) ?_
      refine lv_iload_n hx hb dd_MO_harm_45 rfl (lv_at hl 2 rfl) ?_
      obtain ⟨r_33, x_34, c_35, hf⟩ := of_bnd hf
      refine cl_MO_198 C0 hap ho_v0 c_35 hP hS ⟨Nat.le_of_ble_eq_true rfl, Nat.le_of_ble_eq_true rfl⟩ hl.1 (Nat.le_of_ble_eq_true rfl) dd_MO_harm_46 ⟨Nat.le_refl _, Nat.le_refl _⟩ (fun H locs hP hS => ?_)
      refine lv_if_eq (tgt := 60) hx hb dd_MO_harm_49 (by decide) (fun h_36 => ?_) (fun h_36 => ?_)
      · have hf := (if_pos h_36).symm.trans hf
        refine lv_iconst (v := -1) hx hb dd_MO_harm_60 (by decide) ?_
        obtain ⟨h_37, hf⟩ := of_ifb hf
        obtain ⟨x_38, hx_38, hf⟩ := of_st hf
        refine sI C0 hap hP hS (tp_6_21 ho_v0) h_37 hx_38 dd_MO_harm_61 (fun H locs hP hS => ?_)
        refine lv_iinc (v := v2 + 1) (lv' := [(2, .int (v2 + 1)), (0, .ref (ad v0)), (1, .int v1)]) hx hb dd_MO_harm_62 hl (k := 2) rfl rfl (by decide) rfl (fun ls hl => ?_)
        refine lv_goto (tgt := 30) hx hb dd_MO_harm_65 (by decide) ?_
        exact ih x_38 v0 v1 (v2 + 1) ho_v0 hf _ _ _ hP hS (lv_sub hl [1, 2, 0] rfl)
      · have hf := (if_neg h_36).symm.trans hf
        refine lv_aload_n hx hb dd_MO_harm_52 rfl (lv_at hl 0 rfl) ?_
        refine lv_iload_n hx hb dd_MO_harm_53 rfl (lv_at hl 2 rfl) ?_
        obtain ⟨r_39, x_40, c_41, hf⟩ := of_bnd hf
        refine cl_MO_195 C0 hap ho_v0 c_41 hP hS ⟨Nat.le_of_ble_eq_true rfl, Nat.le_of_ble_eq_true rfl⟩ hl.1 (Nat.le_of_ble_eq_true rfl) dd_MO_harm_54 ⟨Nat.le_refl _, Nat.le_refl _⟩ (fun H locs hP hS => ?_)
        refine lv_goto (tgt := 61) hx hb dd_MO_harm_57 (by decide) ?_
        obtain ⟨h_42, hf⟩ := of_ifb hf
        obtain ⟨x_43, hx_43, hf⟩ := of_st hf
        refine sI C0 hap hP hS (tp_6_21 ho_v0) h_42 hx_43 dd_MO_harm_61 (fun H locs hP hS => ?_)
        refine lv_iinc (v := v2 + 1) (lv' := [(2, .int (v2 + 1)), (0, .ref (ad v0)), (1, .int v1)]) hx hb dd_MO_harm_62 hl (k := 2) rfl rfl (by decide) rfl (fun ls hl => ?_)
        refine lv_goto (tgt := 30) hx hb dd_MO_harm_65 (by decide) ?_
        exact ih x_43 v0 v1 (v2 + 1) ho_v0 hf _ _ _ hP hS (lv_sub hl [1, 2, 0] rfl)
set_option maxHeartbeats 4000000 in
set_option maxRecDepth 100000 in
theorem ww_MO_harm {p : Program} {l : Launch} {e : Env} {s : State} {m : MethodId} {args : Array Value} {below : List Frame} {meth : Method} {c : Code} {E : Ev} {A : Nat → Prop} {ad : Nat → Nat} {r : Int32} {x' : St} (C0 : Cx E A RMO bb_MO_harm 5 (some .int) p s m args meth c) (hap : Ap ad ixM A)  {x : St} {v0 : Nat} {v1 : Int32} (ho_v0 : isO ixM v0 6) (hf : ff_MO_harm x v0 v1 = some (r, x')) {H : Heap} {locs : List Loc} {ls : Array Slot} (hP : Wd E ad ixM x H) (hS : va_S A s.heap H locs) (hl : lv_has ls 5 [(0, .ref (ad v0)), (1, .int v1)]) : W p l e rm_MO_harm s m args below meth c H locs 0 0 (MQ below (QX E ad ixM A (some (.int r)) x') args s 0 0 A) (F0 m 0 ls []) := by
  obtain ⟨hx, hb, hml, hr, hown, hts, hlk, hK⟩ := id C0
  have hf : bnd (ff_MO_get x v0 3) (fun r_1 x_2 => bnd (ff_MO_in x_2 v1 0 (r_1 - 1)) (fun r_4 x_5 => (if r_4 = 0 then bnd (ff_MO_bad x_5 v0) (fun r_44 x_45 => some ((-10), x_45)) else bnd (ff_MO_findGriefs x_5 v0 (-1)) (fun _ x_9 => ff_MO_harm_30 FU x_9 v0 v1 0)))) = some (r, x') := hf
  refine lv_iload_n hx hb dd_MO_harm_0 rfl (lv_at hl 1 rfl) ?_
  refine lv_iconst (v := 0) hx hb dd_MO_harm_1 (by decide) ?_
  refine lv_aload_n hx hb dd_MO_harm_2 rfl (lv_at hl 0 rfl) ?_
  refine lv_iconst (v := 3) hx hb dd_MO_harm_3 (by decide) ?_
  obtain ⟨r_1, x_2, c_3, hf⟩ := of_bnd hf
  refine cl_MO_60 C0 hap ho_v0 c_3 hP hS ⟨Nat.le_of_ble_eq_true rfl, Nat.le_of_ble_eq_true rfl⟩ hl.1 (Nat.le_of_ble_eq_true rfl) dd_MO_harm_4 ⟨Nat.le_refl _, Nat.le_refl _⟩ (fun H locs hP hS => ?_)
  refine lv_iconst (v := 1) hx hb dd_MO_harm_7 (by decide) ?_
  refine lv_isub hx hb dd_MO_harm_8 ?_
  obtain ⟨r_4, x_5, c_6, hf⟩ := of_bnd hf
  refine cl_MO_64 C0 hap  c_6 hP hS ⟨Nat.le_of_ble_eq_true rfl, Nat.le_of_ble_eq_true rfl⟩ hl.1 (Nat.le_of_ble_eq_true rfl) dd_MO_harm_9 ⟨Nat.le_refl _, Nat.le_refl _⟩ (fun H locs hP hS => ?_)
  refine lv_if_ne (tgt := 23) hx hb dd_MO_harm_12 (by decide) (fun h_7 => ?_) (fun h_7 => ?_)
  · have hf := (if_neg h_7).symm.trans hf
    refine lv_aload_n hx hb dd_MO_harm_23 rfl (lv_at hl 0 rfl) ?_
    refine lv_iconst (v := -1) hx hb dd_MO_harm_24 (by decide) ?_
    obtain ⟨_, x_9, c_10, hf⟩ := of_bnd hf
    refine cl_MO_189 C0 hap ho_v0 c_10 hP hS ⟨Nat.le_of_ble_eq_true rfl, Nat.le_of_ble_eq_true rfl⟩ hl.1 (Nat.le_of_ble_eq_true rfl) dd_MO_harm_25 ⟨Nat.le_refl _, Nat.le_refl _⟩ (fun H locs hP hS => ?_)
    refine lv_iconst (v := 0) hx hb dd_MO_harm_28 (by decide) ?_
    refine lv_istore_n (lv' := [(2, .int 0), (0, .ref (ad v0)), (1, .int v1)]) hx hb dd_MO_harm_29 rfl hl (by decide) rfl (fun ls hl => ?_)
    exact ww_MO_harm_30 C0 hap  FU x_9 v0 v1 0 ho_v0 hf _ _ _ hP hS (lv_sub hl [1, 2, 0] rfl)
  · have hf := (if_pos h_7).symm.trans hf
    refine lv_aload_n hx hb dd_MO_harm_15 rfl (lv_at hl 0 rfl) ?_
    obtain ⟨r_44, x_45, c_46, hf⟩ := of_bnd hf
    refine cl_MO_72 C0 hap ho_v0 c_46 hP hS ⟨Nat.le_of_ble_eq_true rfl, Nat.le_of_ble_eq_true rfl⟩ hl.1 (Nat.le_of_ble_eq_true rfl) dd_MO_harm_16 ⟨Nat.le_refl _, Nat.le_refl _⟩ (fun H locs hP hS => ?_)
    refine lv_pop hx hb dd_MO_harm_19 rfl ?_
    refine lv_bipush (v := -10) hx hb dd_MO_harm_20 (by decide) ?_
    exact rrI C0 hP hS dd_MO_harm_22 hf
theorem cc_MO_harm {l : Launch} {E : Ev} {A : Nat → Prop} {ad : Nat → Nat} (hap : Ap ad ixM A) {x x' : St} {v0 : Nat} {v1 : Int32} {r : Int32} (ho_v0 : isO ixM v0 6) (hf : ff_MO_harm x v0 v1 = some (r, x')) : Met l yy_MO_harm (Cond.code yy_MO_harm bb_MO_harm 5 (some .int) :: gtb) rm_MO_harm (va_Pc [.ref (ad v0), .int v1] (PB E A ad ixM x)) (QX E ad ixM A (some (.int r)) x') 0 0 A := by
  exact enter (by decide) (Nat.le_of_ble_eq_true rfl) (fun p e s m below meth c ls C0 hP hS hl => ww_MO_harm C0 hap ho_v0 hf hP hS hl)
abbrev rm_MO_part : Room := { frames := 1, cells := 0, slots := 0, locals := 22 }
theorem dd_MO_part_0 : decode bb_MO_part 0 = .ok (.iload_n 1, 1) := by decide +kernel
theorem dd_MO_part_1 : decode bb_MO_part 1 = .ok (.iconst 0, 1) := by decide +kernel
theorem dd_MO_part_2 : decode bb_MO_part 2 = .ok (.iconst 1, 1) := by decide +kernel
theorem dd_MO_part_3 : decode bb_MO_part 3 = .ok (.invokestatic 64, 3) := by decide +kernel
theorem dd_MO_part_6 : decode bb_MO_part 6 = .ok (.ifCond .eq 21, 3) := by decide +kernel
theorem dd_MO_part_9 : decode bb_MO_part 9 = .ok (.iload_n 1, 1) := by decide +kernel
theorem dd_MO_part_10 : decode bb_MO_part 10 = .ok (.ifCond .ne 10, 3) := by decide +kernel
theorem dd_MO_part_13 : decode bb_MO_part 13 = .ok (.aload_n 0, 1) := by decide +kernel
theorem dd_MO_part_14 : decode bb_MO_part 14 = .ok (.getfield 224, 3) := by decide +kernel
theorem dd_MO_part_17 : decode bb_MO_part 17 = .ok (.goto 15, 3) := by decide +kernel
theorem dd_MO_part_20 : decode bb_MO_part 20 = .ok (.aload_n 0, 1) := by decide +kernel
theorem dd_MO_part_21 : decode bb_MO_part 21 = .ok (.getfield 53, 3) := by decide +kernel
theorem dd_MO_part_24 : decode bb_MO_part 24 = .ok (.goto 8, 3) := by decide +kernel
theorem dd_MO_part_27 : decode bb_MO_part 27 = .ok (.aload_n 0, 1) := by decide +kernel
theorem dd_MO_part_28 : decode bb_MO_part 28 = .ok (.invokevirtual 72, 3) := by decide +kernel
theorem dd_MO_part_31 : decode bb_MO_part 31 = .ok (.i2l, 1) := by decide +kernel
theorem dd_MO_part_32 : decode bb_MO_part 32 = .ok (.lreturn, 1) := by decide +kernel
def ff_MO_part  (x : St) (v0 : Nat) (v1 : Int32) : Option (Int64 × St) := bnd (ff_MO_in x v1 0 1) (fun r_1 x_2 => (if r_1 = 0 then bnd (ff_MO_bad x_2 v0) (fun r_5 x_6 => some (r_5.toInt64, x_6)) else (if v1 = 0 then some (gl x_2 v0 4, x_2) else some (gl x_2 v0 5, x_2))))
set_option maxHeartbeats 4000000 in
set_option maxRecDepth 100000 in
theorem ww_MO_part {p : Program} {l : Launch} {e : Env} {s : State} {m : MethodId} {args : Array Value} {below : List Frame} {meth : Method} {c : Code} {E : Ev} {A : Nat → Prop} {ad : Nat → Nat} {r : Int64} {x' : St} (C0 : Cx E A RMO bb_MO_part 2 (some .long) p s m args meth c) (hap : Ap ad ixM A)  {x : St} {v0 : Nat} {v1 : Int32} (ho_v0 : isO ixM v0 6) (hf : ff_MO_part x v0 v1 = some (r, x')) {H : Heap} {locs : List Loc} {ls : Array Slot} (hP : Wd E ad ixM x H) (hS : va_S A s.heap H locs) (hl : lv_has ls 2 [(0, .ref (ad v0)), (1, .int v1)]) : W p l e rm_MO_part s m args below meth c H locs 0 0 (MQ below (QX E ad ixM A (some (.long r)) x') args s 0 0 A) (F0 m 0 ls []) := by
  obtain ⟨hx, hb, hml, hr, hown, hts, hlk, hK⟩ := id C0
  have hf : bnd (ff_MO_in x v1 0 1) (fun r_1 x_2 => (if r_1 = 0 then bnd (ff_MO_bad x_2 v0) (fun r_5 x_6 => some (r_5.toInt64, x_6)) else (if v1 = 0 then some (gl x_2 v0 4, x_2) else some (gl x_2 v0 5, x_2)))) = some (r, x') := hf
  refine lv_iload_n hx hb dd_MO_part_0 rfl (lv_at hl 1 rfl) ?_
  refine lv_iconst (v := 0) hx hb dd_MO_part_1 (by decide) ?_
  refine lv_iconst (v := 1) hx hb dd_MO_part_2 (by decide) ?_
  obtain ⟨r_1, x_2, c_3, hf⟩ := of_bnd hf
  refine cl_MO_64 C0 hap  c_3 hP hS ⟨Nat.le_of_ble_eq_true rfl, Nat.le_of_ble_eq_true rfl⟩ hl.1 (Nat.le_of_ble_eq_true rfl) dd_MO_part_3 ⟨Nat.le_refl _, Nat.le_refl _⟩ (fun H locs hP hS => ?_)
  refine lv_if_eq (tgt := 27) hx hb dd_MO_part_6 (by decide) (fun h_4 => ?_) (fun h_4 => ?_)
  · have hf := (if_pos h_4).symm.trans hf
    refine lv_aload_n hx hb dd_MO_part_27 rfl (lv_at hl 0 rfl) ?_
    obtain ⟨r_5, x_6, c_7, hf⟩ := of_bnd hf
    refine cl_MO_72 C0 hap ho_v0 c_7 hP hS ⟨Nat.le_of_ble_eq_true rfl, Nat.le_of_ble_eq_true rfl⟩ hl.1 (Nat.le_of_ble_eq_true rfl) dd_MO_part_28 ⟨Nat.le_refl _, Nat.le_refl _⟩ (fun H locs hP hS => ?_)
    refine lv_i2l hx hb dd_MO_part_31 rfl ?_
    exact rrL C0 hP hS dd_MO_part_32 hf
  · have hf := (if_neg h_4).symm.trans hf
    refine lv_iload_n hx hb dd_MO_part_9 rfl (lv_at hl 1 rfl) ?_
    refine lv_if_ne (tgt := 20) hx hb dd_MO_part_10 (by decide) (fun h_8 => ?_) (fun h_8 => ?_)
    · have hf := (if_neg h_8).symm.trans hf
      refine lv_aload_n hx hb dd_MO_part_20 rfl (lv_at hl 0 rfl) ?_
      refine gf_MO_53 C0 hP ho_v0 dd_MO_part_21 ?_
      refine lv_goto (tgt := 32) hx hb dd_MO_part_24 (by decide) ?_
      exact rrL C0 hP hS dd_MO_part_32 hf
    · have hf := (if_pos h_8).symm.trans hf
      refine lv_aload_n hx hb dd_MO_part_13 rfl (lv_at hl 0 rfl) ?_
      refine gf_MO_224 C0 hP ho_v0 dd_MO_part_14 ?_
      refine lv_goto (tgt := 32) hx hb dd_MO_part_17 (by decide) ?_
      exact rrL C0 hP hS dd_MO_part_32 hf
theorem cc_MO_part {l : Launch} {E : Ev} {A : Nat → Prop} {ad : Nat → Nat} (hap : Ap ad ixM A) {x x' : St} {v0 : Nat} {v1 : Int32} {r : Int64} (ho_v0 : isO ixM v0 6) (hf : ff_MO_part x v0 v1 = some (r, x')) : Met l yy_MO_part (Cond.code yy_MO_part bb_MO_part 2 (some .long) :: gtb) rm_MO_part (va_Pc [.ref (ad v0), .int v1] (PB E A ad ixM x)) (QX E ad ixM A (some (.long r)) x') 0 0 A := by
  exact enter (by decide) (Nat.le_of_ble_eq_true rfl) (fun p e s m below meth c ls C0 hP hS hl => ww_MO_part C0 hap ho_v0 hf hP hS hl)
abbrev rm_MO_image : Room := { frames := 1, cells := 0, slots := 0, locals := 23 }
theorem dd_MO_image_0 : decode bb_MO_image 0 = .ok (.iload_n 1, 1) := by decide +kernel
theorem dd_MO_image_1 : decode bb_MO_image 1 = .ok (.iconst 0, 1) := by decide +kernel
theorem dd_MO_image_2 : decode bb_MO_image 2 = .ok (.iconst 1, 1) := by decide +kernel
theorem dd_MO_image_3 : decode bb_MO_image 3 = .ok (.invokestatic 64, 3) := by decide +kernel
theorem dd_MO_image_6 : decode bb_MO_image 6 = .ok (.ifCond .ne 8, 3) := by decide +kernel
theorem dd_MO_image_9 : decode bb_MO_image 9 = .ok (.aload_n 0, 1) := by decide +kernel
theorem dd_MO_image_10 : decode bb_MO_image 10 = .ok (.invokevirtual 72, 3) := by decide +kernel
theorem dd_MO_image_13 : decode bb_MO_image 13 = .ok (.ireturn, 1) := by decide +kernel
theorem dd_MO_image_14 : decode bb_MO_image 14 = .ok (.aload_n 0, 1) := by decide +kernel
theorem dd_MO_image_15 : decode bb_MO_image 15 = .ok (.iconst 0, 1) := by decide +kernel
theorem dd_MO_image_16 : decode bb_MO_image 16 = .ok (.sipush 315, 3) := by decide +kernel
theorem dd_MO_image_19 : decode bb_MO_image 19 = .ok (.iconst 1, 1) := by decide +kernel
theorem dd_MO_image_20 : decode bb_MO_image 20 = .ok (.iload_n 1, 1) := by decide +kernel
theorem dd_MO_image_21 : decode bb_MO_image 21 = .ok (.iadd, 1) := by decide +kernel
theorem dd_MO_image_22 : decode bb_MO_image 22 = .ok (.imul, 1) := by decide +kernel
theorem dd_MO_image_23 : decode bb_MO_image 23 = .ok (.invokevirtual 170, 3) := by decide +kernel
theorem dd_MO_image_26 : decode bb_MO_image 26 = .ok (.aload_n 0, 1) := by decide +kernel
theorem dd_MO_image_27 : decode bb_MO_image 27 = .ok (.getfield 13, 3) := by decide +kernel
theorem dd_MO_image_30 : decode bb_MO_image 30 = .ok (.iload_n 1, 1) := by decide +kernel
theorem dd_MO_image_31 : decode bb_MO_image 31 = .ok (.iconst 1, 1) := by decide +kernel
theorem dd_MO_image_32 : decode bb_MO_image 32 = .ok (.bastore, 1) := by decide +kernel
theorem dd_MO_image_33 : decode bb_MO_image 33 = .ok (.iconst 1, 1) := by decide +kernel
theorem dd_MO_image_34 : decode bb_MO_image 34 = .ok (.ireturn, 1) := by decide +kernel
def ff_MO_image  (x : St) (v0 : Nat) (v1 : Int32) : Option (Int32 × St) := bnd (ff_MO_in x v1 0 1) (fun r_1 x_2 => (if r_1 = 0 then bnd (ff_MO_bad x_2 v0) (fun r_10 x_11 => some (r_10, x_11)) else bnd (ff_MO_copy x_2 v0 0 (315 * (1 + v1))) (fun _ x_6 => (if ixb v1 (ln (rf v0 2)) = true then st (si x_6 (rf v0 2) (ix v1) (vp_nar .boolean 1)) (fun x_9 => some (1, x_9)) else none))))
set_option maxHeartbeats 4000000 in
set_option maxRecDepth 100000 in
theorem ww_MO_image {p : Program} {l : Launch} {e : Env} {s : State} {m : MethodId} {args : Array Value} {below : List Frame} {meth : Method} {c : Code} {E : Ev} {A : Nat → Prop} {ad : Nat → Nat} {r : Int32} {x' : St} (C0 : Cx E A RMO bb_MO_image 2 (some .int) p s m args meth c) (hap : Ap ad ixM A)  {x : St} {v0 : Nat} {v1 : Int32} (ho_v0 : isO ixM v0 6) (hf : ff_MO_image x v0 v1 = some (r, x')) {H : Heap} {locs : List Loc} {ls : Array Slot} (hP : Wd E ad ixM x H) (hS : va_S A s.heap H locs) (hl : lv_has ls 2 [(0, .ref (ad v0)), (1, .int v1)]) : W p l e rm_MO_image s m args below meth c H locs 0 0 (MQ below (QX E ad ixM A (some (.int r)) x') args s 0 0 A) (F0 m 0 ls []) := by
  obtain ⟨hx, hb, hml, hr, hown, hts, hlk, hK⟩ := id C0
  have hf : bnd (ff_MO_in x v1 0 1) (fun r_1 x_2 => (if r_1 = 0 then bnd (ff_MO_bad x_2 v0) (fun r_10 x_11 => some (r_10, x_11)) else bnd (ff_MO_copy x_2 v0 0 (315 * (1 + v1))) (fun _ x_6 => (if ixb v1 (ln (rf v0 2)) = true then st (si x_6 (rf v0 2) (ix v1) (vp_nar .boolean 1)) (fun x_9 => some (1, x_9)) else none)))) = some (r, x') := hf
  refine lv_iload_n hx hb dd_MO_image_0 rfl (lv_at hl 1 rfl) ?_
  refine lv_iconst (v := 0) hx hb dd_MO_image_1 (by decide) ?_
  refine lv_iconst (v := 1) hx hb dd_MO_image_2 (by decide) ?_
  obtain ⟨r_1, x_2, c_3, hf⟩ := of_bnd hf
  refine cl_MO_64 C0 hap  c_3 hP hS ⟨Nat.le_of_ble_eq_true rfl, Nat.le_of_ble_eq_true rfl⟩ hl.1 (Nat.le_of_ble_eq_true rfl) dd_MO_image_3 ⟨Nat.le_refl _, Nat.le_refl _⟩ (fun H locs hP hS => ?_)
  refine lv_if_ne (tgt := 14) hx hb dd_MO_image_6 (by decide) (fun h_4 => ?_) (fun h_4 => ?_)
  · have hf := (if_neg h_4).symm.trans hf
    refine lv_aload_n hx hb dd_MO_image_14 rfl (lv_at hl 0 rfl) ?_
    refine lv_iconst (v := 0) hx hb dd_MO_image_15 (by decide) ?_
    refine lv_sipush (v := 315) hx hb dd_MO_image_16 (by decide) ?_
    refine lv_iconst (v := 1) hx hb dd_MO_image_19 (by decide) ?_
    refine lv_iload_n hx hb dd_MO_image_20 rfl (lv_at hl 1 rfl) ?_
    refine lv_iadd hx hb dd_MO_image_21 ?_
    refine lv_imul hx hb dd_MO_image_22 ?_
    obtain ⟨_, x_6, c_7, hf⟩ := of_bnd hf
    refine cl_MO_170 C0 hap ho_v0 c_7 hP hS ⟨Nat.le_of_ble_eq_true rfl, Nat.le_of_ble_eq_true rfl⟩ hl.1 (Nat.le_of_ble_eq_true rfl) dd_MO_image_23 ⟨Nat.le_refl _, Nat.le_refl _⟩ (fun H locs hP hS => ?_)
    refine lv_aload_n hx hb dd_MO_image_26 rfl (lv_at hl 0 rfl) ?_
    refine gf_MO_13 C0 hP ho_v0 dd_MO_image_27 ?_
    refine lv_iload_n hx hb dd_MO_image_30 rfl (lv_at hl 1 rfl) ?_
    refine lv_iconst (v := 1) hx hb dd_MO_image_31 (by decide) ?_
    obtain ⟨h_8, hf⟩ := of_ifb hf
    obtain ⟨x_9, hx_9, hf⟩ := of_st hf
    refine sZ C0 hap hP hS (tp_6_2 ho_v0) h_8 hx_9 dd_MO_image_32 (fun H locs hP hS => ?_)
    refine lv_iconst (v := 1) hx hb dd_MO_image_33 (by decide) ?_
    exact rrI C0 hP hS dd_MO_image_34 hf
  · have hf := (if_pos h_4).symm.trans hf
    refine lv_aload_n hx hb dd_MO_image_9 rfl (lv_at hl 0 rfl) ?_
    obtain ⟨r_10, x_11, c_12, hf⟩ := of_bnd hf
    refine cl_MO_72 C0 hap ho_v0 c_12 hP hS ⟨Nat.le_of_ble_eq_true rfl, Nat.le_of_ble_eq_true rfl⟩ hl.1 (Nat.le_of_ble_eq_true rfl) dd_MO_image_10 ⟨Nat.le_refl _, Nat.le_refl _⟩ (fun H locs hP hS => ?_)
    exact rrI C0 hP hS dd_MO_image_13 hf
theorem cc_MO_image {l : Launch} {E : Ev} {A : Nat → Prop} {ad : Nat → Nat} (hap : Ap ad ixM A) {x x' : St} {v0 : Nat} {v1 : Int32} {r : Int32} (ho_v0 : isO ixM v0 6) (hf : ff_MO_image x v0 v1 = some (r, x')) : Met l yy_MO_image (Cond.code yy_MO_image bb_MO_image 2 (some .int) :: gtb) rm_MO_image (va_Pc [.ref (ad v0), .int v1] (PB E A ad ixM x)) (QX E ad ixM A (some (.int r)) x') 0 0 A := by
  exact enter (by decide) (Nat.le_of_ble_eq_true rfl) (fun p e s m below meth c ls C0 hP hS hl => ww_MO_image C0 hap ho_v0 hf hP hS hl)
abbrev rm_MO_from : Room := { frames := 1, cells := 0, slots := 0, locals := 23 }
theorem dd_MO_from_0 : decode bb_MO_from 0 = .ok (.iload_n 1, 1) := by decide +kernel
theorem dd_MO_from_1 : decode bb_MO_from 1 = .ok (.iconst 0, 1) := by decide +kernel
theorem dd_MO_from_2 : decode bb_MO_from 2 = .ok (.iconst 1, 1) := by decide +kernel
theorem dd_MO_from_3 : decode bb_MO_from 3 = .ok (.invokestatic 64, 3) := by decide +kernel
theorem dd_MO_from_6 : decode bb_MO_from 6 = .ok (.ifCond .ne 8, 3) := by decide +kernel
theorem dd_MO_from_9 : decode bb_MO_from 9 = .ok (.aload_n 0, 1) := by decide +kernel
theorem dd_MO_from_10 : decode bb_MO_from 10 = .ok (.invokevirtual 72, 3) := by decide +kernel
theorem dd_MO_from_13 : decode bb_MO_from 13 = .ok (.ireturn, 1) := by decide +kernel
theorem dd_MO_from_14 : decode bb_MO_from 14 = .ok (.aload_n 0, 1) := by decide +kernel
theorem dd_MO_from_15 : decode bb_MO_from 15 = .ok (.getfield 13, 3) := by decide +kernel
theorem dd_MO_from_18 : decode bb_MO_from 18 = .ok (.iload_n 1, 1) := by decide +kernel
theorem dd_MO_from_19 : decode bb_MO_from 19 = .ok (.baload, 1) := by decide +kernel
theorem dd_MO_from_20 : decode bb_MO_from 20 = .ok (.ifCond .ne 8, 3) := by decide +kernel
theorem dd_MO_from_23 : decode bb_MO_from 23 = .ok (.aload_n 0, 1) := by decide +kernel
theorem dd_MO_from_24 : decode bb_MO_from 24 = .ok (.invokevirtual 100, 3) := by decide +kernel
theorem dd_MO_from_27 : decode bb_MO_from 27 = .ok (.ireturn, 1) := by decide +kernel
theorem dd_MO_from_28 : decode bb_MO_from 28 = .ok (.aload_n 0, 1) := by decide +kernel
theorem dd_MO_from_29 : decode bb_MO_from 29 = .ok (.sipush 315, 3) := by decide +kernel
theorem dd_MO_from_32 : decode bb_MO_from 32 = .ok (.iconst 1, 1) := by decide +kernel
theorem dd_MO_from_33 : decode bb_MO_from 33 = .ok (.iload_n 1, 1) := by decide +kernel
theorem dd_MO_from_34 : decode bb_MO_from 34 = .ok (.iadd, 1) := by decide +kernel
theorem dd_MO_from_35 : decode bb_MO_from 35 = .ok (.imul, 1) := by decide +kernel
theorem dd_MO_from_36 : decode bb_MO_from 36 = .ok (.iconst 0, 1) := by decide +kernel
theorem dd_MO_from_37 : decode bb_MO_from 37 = .ok (.invokevirtual 170, 3) := by decide +kernel
theorem dd_MO_from_40 : decode bb_MO_from 40 = .ok (.iconst 1, 1) := by decide +kernel
theorem dd_MO_from_41 : decode bb_MO_from 41 = .ok (.ireturn, 1) := by decide +kernel
def ff_MO_from  (x : St) (v0 : Nat) (v1 : Int32) : Option (Int32 × St) := bnd (ff_MO_in x v1 0 1) (fun r_1 x_2 => (if r_1 = 0 then bnd (ff_MO_bad x_2 v0) (fun r_13 x_14 => some (r_13, x_14)) else (if ixb v1 (ln (rf v0 2)) = true then (if (gi x_2 (rf v0 2) (ix v1)) = 0 then bnd (ff_MO_no x_2 v0) (fun r_10 x_11 => some (r_10, x_11)) else bnd (ff_MO_copy x_2 v0 (315 * (1 + v1)) 0) (fun _ x_8 => some (1, x_8))) else none)))
set_option maxHeartbeats 4000000 in
set_option maxRecDepth 100000 in
theorem ww_MO_from {p : Program} {l : Launch} {e : Env} {s : State} {m : MethodId} {args : Array Value} {below : List Frame} {meth : Method} {c : Code} {E : Ev} {A : Nat → Prop} {ad : Nat → Nat} {r : Int32} {x' : St} (C0 : Cx E A RMO bb_MO_from 2 (some .int) p s m args meth c) (hap : Ap ad ixM A)  {x : St} {v0 : Nat} {v1 : Int32} (ho_v0 : isO ixM v0 6) (hf : ff_MO_from x v0 v1 = some (r, x')) {H : Heap} {locs : List Loc} {ls : Array Slot} (hP : Wd E ad ixM x H) (hS : va_S A s.heap H locs) (hl : lv_has ls 2 [(0, .ref (ad v0)), (1, .int v1)]) : W p l e rm_MO_from s m args below meth c H locs 0 0 (MQ below (QX E ad ixM A (some (.int r)) x') args s 0 0 A) (F0 m 0 ls []) := by
  obtain ⟨hx, hb, hml, hr, hown, hts, hlk, hK⟩ := id C0
  have hf : bnd (ff_MO_in x v1 0 1) (fun r_1 x_2 => (if r_1 = 0 then bnd (ff_MO_bad x_2 v0) (fun r_13 x_14 => some (r_13, x_14)) else (if ixb v1 (ln (rf v0 2)) = true then (if (gi x_2 (rf v0 2) (ix v1)) = 0 then bnd (ff_MO_no x_2 v0) (fun r_10 x_11 => some (r_10, x_11)) else bnd (ff_MO_copy x_2 v0 (315 * (1 + v1)) 0) (fun _ x_8 => some (1, x_8))) else none))) = some (r, x') := hf
  refine lv_iload_n hx hb dd_MO_from_0 rfl (lv_at hl 1 rfl) ?_
  refine lv_iconst (v := 0) hx hb dd_MO_from_1 (by decide) ?_
  refine lv_iconst (v := 1) hx hb dd_MO_from_2 (by decide) ?_
  obtain ⟨r_1, x_2, c_3, hf⟩ := of_bnd hf
  refine cl_MO_64 C0 hap  c_3 hP hS ⟨Nat.le_of_ble_eq_true rfl, Nat.le_of_ble_eq_true rfl⟩ hl.1 (Nat.le_of_ble_eq_true rfl) dd_MO_from_3 ⟨Nat.le_refl _, Nat.le_refl _⟩ (fun H locs hP hS => ?_)
  refine lv_if_ne (tgt := 14) hx hb dd_MO_from_6 (by decide) (fun h_4 => ?_) (fun h_4 => ?_)
  · have hf := (if_neg h_4).symm.trans hf
    refine lv_aload_n hx hb dd_MO_from_14 rfl (lv_at hl 0 rfl) ?_
    refine gf_MO_13 C0 hP ho_v0 dd_MO_from_15 ?_
    refine lv_iload_n hx hb dd_MO_from_18 rfl (lv_at hl 1 rfl) ?_
    obtain ⟨h_5, hf⟩ := of_ifb hf
    refine raZ C0 hP (tp_6_2 ho_v0) h_5 dd_MO_from_19 ?_
    refine lv_if_ne (tgt := 28) hx hb dd_MO_from_20 (by decide) (fun h_6 => ?_) (fun h_6 => ?_)
    · have hf := (if_neg h_6).symm.trans hf
      refine lv_aload_n hx hb dd_MO_from_28 rfl (lv_at hl 0 rfl) ?_
      refine lv_sipush (v := 315) hx hb dd_MO_from_29 (by decide) ?_
      refine lv_iconst (v := 1) hx hb dd_MO_from_32 (by decide) ?_
      refine lv_iload_n hx hb dd_MO_from_33 rfl (lv_at hl 1 rfl) ?_
      refine lv_iadd hx hb dd_MO_from_34 ?_
      refine lv_imul hx hb dd_MO_from_35 ?_
      refine lv_iconst (v := 0) hx hb dd_MO_from_36 (by decide) ?_
      obtain ⟨_, x_8, c_9, hf⟩ := of_bnd hf
      refine cl_MO_170 C0 hap ho_v0 c_9 hP hS ⟨Nat.le_of_ble_eq_true rfl, Nat.le_of_ble_eq_true rfl⟩ hl.1 (Nat.le_of_ble_eq_true rfl) dd_MO_from_37 ⟨Nat.le_refl _, Nat.le_refl _⟩ (fun H locs hP hS => ?_)
      refine lv_iconst (v := 1) hx hb dd_MO_from_40 (by decide) ?_
      exact rrI C0 hP hS dd_MO_from_41 hf
    · have hf := (if_pos h_6).symm.trans hf
      refine lv_aload_n hx hb dd_MO_from_23 rfl (lv_at hl 0 rfl) ?_
      obtain ⟨r_10, x_11, c_12, hf⟩ := of_bnd hf
      refine cl_MO_100 C0 hap ho_v0 c_12 hP hS ⟨Nat.le_of_ble_eq_true rfl, Nat.le_of_ble_eq_true rfl⟩ hl.1 (Nat.le_of_ble_eq_true rfl) dd_MO_from_24 ⟨Nat.le_refl _, Nat.le_refl _⟩ (fun H locs hP hS => ?_)
      exact rrI C0 hP hS dd_MO_from_27 hf
  · have hf := (if_pos h_4).symm.trans hf
    refine lv_aload_n hx hb dd_MO_from_9 rfl (lv_at hl 0 rfl) ?_
    obtain ⟨r_13, x_14, c_15, hf⟩ := of_bnd hf
    refine cl_MO_72 C0 hap ho_v0 c_15 hP hS ⟨Nat.le_of_ble_eq_true rfl, Nat.le_of_ble_eq_true rfl⟩ hl.1 (Nat.le_of_ble_eq_true rfl) dd_MO_from_10 ⟨Nat.le_refl _, Nat.le_refl _⟩ (fun H locs hP hS => ?_)
    exact rrI C0 hP hS dd_MO_from_13 hf
theorem cc_MO_from {l : Launch} {E : Ev} {A : Nat → Prop} {ad : Nat → Nat} (hap : Ap ad ixM A) {x x' : St} {v0 : Nat} {v1 : Int32} {r : Int32} (ho_v0 : isO ixM v0 6) (hf : ff_MO_from x v0 v1 = some (r, x')) : Met l yy_MO_from (Cond.code yy_MO_from bb_MO_from 2 (some .int) :: gtb) rm_MO_from (va_Pc [.ref (ad v0), .int v1] (PB E A ad ixM x)) (QX E ad ixM A (some (.int r)) x') 0 0 A := by
  exact enter (by decide) (Nat.le_of_ble_eq_true rfl) (fun p e s m below meth c ls C0 hP hS hl => ww_MO_from C0 hap ho_v0 hf hP hS hl)
abbrev rm_MO_status : Room := { frames := 1, cells := 0, slots := 0, locals := 22 }
theorem dd_MO_status_0 : decode bb_MO_status 0 = .ok (.iload_n 1, 1) := by decide +kernel
theorem dd_MO_status_1 : decode bb_MO_status 1 = .ok (.iconst 0, 1) := by decide +kernel
theorem dd_MO_status_2 : decode bb_MO_status 2 = .ok (.iconst 2, 1) := by decide +kernel
theorem dd_MO_status_3 : decode bb_MO_status 3 = .ok (.invokestatic 64, 3) := by decide +kernel
theorem dd_MO_status_6 : decode bb_MO_status 6 = .ok (.ifCond .ne 10, 3) := by decide +kernel
theorem dd_MO_status_9 : decode bb_MO_status 9 = .ok (.aload_n 0, 1) := by decide +kernel
theorem dd_MO_status_10 : decode bb_MO_status 10 = .ok (.invokevirtual 72, 3) := by decide +kernel
theorem dd_MO_status_13 : decode bb_MO_status 13 = .ok (.pop, 1) := by decide +kernel
theorem dd_MO_status_14 : decode bb_MO_status 14 = .ok (.iconst (-1), 1) := by decide +kernel
theorem dd_MO_status_15 : decode bb_MO_status 15 = .ok (.ireturn, 1) := by decide +kernel
theorem dd_MO_status_16 : decode bb_MO_status 16 = .ok (.aload_n 0, 1) := by decide +kernel
theorem dd_MO_status_17 : decode bb_MO_status 17 = .ok (.getfield 17, 3) := by decide +kernel
theorem dd_MO_status_20 : decode bb_MO_status 20 = .ok (.iload_n 1, 1) := by decide +kernel
theorem dd_MO_status_21 : decode bb_MO_status 21 = .ok (.iaload, 1) := by decide +kernel
theorem dd_MO_status_22 : decode bb_MO_status 22 = .ok (.ireturn, 1) := by decide +kernel
def ff_MO_status  (x : St) (v0 : Nat) (v1 : Int32) : Option (Int32 × St) := bnd (ff_MO_in x v1 0 2) (fun r_1 x_2 => (if r_1 = 0 then bnd (ff_MO_bad x_2 v0) (fun r_6 x_7 => some ((-1), x_7)) else (if ixb v1 (ln (rf v0 3)) = true then some (gi x_2 (rf v0 3) (ix v1), x_2) else none)))
set_option maxHeartbeats 4000000 in
set_option maxRecDepth 100000 in
theorem ww_MO_status {p : Program} {l : Launch} {e : Env} {s : State} {m : MethodId} {args : Array Value} {below : List Frame} {meth : Method} {c : Code} {E : Ev} {A : Nat → Prop} {ad : Nat → Nat} {r : Int32} {x' : St} (C0 : Cx E A RMO bb_MO_status 2 (some .int) p s m args meth c) (hap : Ap ad ixM A)  {x : St} {v0 : Nat} {v1 : Int32} (ho_v0 : isO ixM v0 6) (hf : ff_MO_status x v0 v1 = some (r, x')) {H : Heap} {locs : List Loc} {ls : Array Slot} (hP : Wd E ad ixM x H) (hS : va_S A s.heap H locs) (hl : lv_has ls 2 [(0, .ref (ad v0)), (1, .int v1)]) : W p l e rm_MO_status s m args below meth c H locs 0 0 (MQ below (QX E ad ixM A (some (.int r)) x') args s 0 0 A) (F0 m 0 ls []) := by
  obtain ⟨hx, hb, hml, hr, hown, hts, hlk, hK⟩ := id C0
  have hf : bnd (ff_MO_in x v1 0 2) (fun r_1 x_2 => (if r_1 = 0 then bnd (ff_MO_bad x_2 v0) (fun r_6 x_7 => some ((-1), x_7)) else (if ixb v1 (ln (rf v0 3)) = true then some (gi x_2 (rf v0 3) (ix v1), x_2) else none))) = some (r, x') := hf
  refine lv_iload_n hx hb dd_MO_status_0 rfl (lv_at hl 1 rfl) ?_
  refine lv_iconst (v := 0) hx hb dd_MO_status_1 (by decide) ?_
  refine lv_iconst (v := 2) hx hb dd_MO_status_2 (by decide) ?_
  obtain ⟨r_1, x_2, c_3, hf⟩ := of_bnd hf
  refine cl_MO_64 C0 hap  c_3 hP hS ⟨Nat.le_of_ble_eq_true rfl, Nat.le_of_ble_eq_true rfl⟩ hl.1 (Nat.le_of_ble_eq_true rfl) dd_MO_status_3 ⟨Nat.le_refl _, Nat.le_refl _⟩ (fun H locs hP hS => ?_)
  refine lv_if_ne (tgt := 16) hx hb dd_MO_status_6 (by decide) (fun h_4 => ?_) (fun h_4 => ?_)
  · have hf := (if_neg h_4).symm.trans hf
    refine lv_aload_n hx hb dd_MO_status_16 rfl (lv_at hl 0 rfl) ?_
    refine gf_MO_17 C0 hP ho_v0 dd_MO_status_17 ?_
    refine lv_iload_n hx hb dd_MO_status_20 rfl (lv_at hl 1 rfl) ?_
    obtain ⟨h_5, hf⟩ := of_ifb hf
    refine raI C0 hP (tp_6_3 ho_v0) h_5 dd_MO_status_21 ?_
    exact rrI C0 hP hS dd_MO_status_22 hf
  · have hf := (if_pos h_4).symm.trans hf
    refine lv_aload_n hx hb dd_MO_status_9 rfl (lv_at hl 0 rfl) ?_
    obtain ⟨r_6, x_7, c_8, hf⟩ := of_bnd hf
    refine cl_MO_72 C0 hap ho_v0 c_8 hP hS ⟨Nat.le_of_ble_eq_true rfl, Nat.le_of_ble_eq_true rfl⟩ hl.1 (Nat.le_of_ble_eq_true rfl) dd_MO_status_10 ⟨Nat.le_refl _, Nat.le_refl _⟩ (fun H locs hP hS => ?_)
    refine lv_pop hx hb dd_MO_status_13 rfl ?_
    refine lv_iconst (v := -1) hx hb dd_MO_status_14 (by decide) ?_
    exact rrI C0 hP hS dd_MO_status_15 hf
theorem cc_MO_status {l : Launch} {E : Ev} {A : Nat → Prop} {ad : Nat → Nat} (hap : Ap ad ixM A) {x x' : St} {v0 : Nat} {v1 : Int32} {r : Int32} (ho_v0 : isO ixM v0 6) (hf : ff_MO_status x v0 v1 = some (r, x')) : Met l yy_MO_status (Cond.code yy_MO_status bb_MO_status 2 (some .int) :: gtb) rm_MO_status (va_Pc [.ref (ad v0), .int v1] (PB E A ad ixM x)) (QX E ad ixM A (some (.int r)) x') 0 0 A := by
  exact enter (by decide) (Nat.le_of_ble_eq_true rfl) (fun p e s m below meth c ls C0 hP hS hl => ww_MO_status C0 hap ho_v0 hf hP hS hl)
abbrev rm_MO_count : Room := { frames := 1, cells := 0, slots := 0, locals := 22 }
theorem dd_MO_count_0 : decode bb_MO_count 0 = .ok (.iload_n 1, 1) := by decide +kernel
theorem dd_MO_count_1 : decode bb_MO_count 1 = .ok (.iconst 0, 1) := by decide +kernel
theorem dd_MO_count_2 : decode bb_MO_count 2 = .ok (.bipush 7, 2) := by decide +kernel
theorem dd_MO_count_4 : decode bb_MO_count 4 = .ok (.invokestatic 64, 3) := by decide +kernel
theorem dd_MO_count_7 : decode bb_MO_count 7 = .ok (.ifCond .ne 8, 3) := by decide +kernel
theorem dd_MO_count_10 : decode bb_MO_count 10 = .ok (.aload_n 0, 1) := by decide +kernel
theorem dd_MO_count_11 : decode bb_MO_count 11 = .ok (.invokevirtual 72, 3) := by decide +kernel
theorem dd_MO_count_14 : decode bb_MO_count 14 = .ok (.ireturn, 1) := by decide +kernel
theorem dd_MO_count_15 : decode bb_MO_count 15 = .ok (.iload_n 1, 1) := by decide +kernel
theorem dd_MO_count_16 : decode bb_MO_count 16 = .ok (.bipush 7, 2) := by decide +kernel
theorem dd_MO_count_18 : decode bb_MO_count 18 = .ok (.if_icmp .ne 10, 3) := by decide +kernel
theorem dd_MO_count_21 : decode bb_MO_count 21 = .ok (.aload_n 0, 1) := by decide +kernel
theorem dd_MO_count_22 : decode bb_MO_count 22 = .ok (.getfield 118, 3) := by decide +kernel
theorem dd_MO_count_25 : decode bb_MO_count 25 = .ok (.goto 8, 3) := by decide +kernel
theorem dd_MO_count_28 : decode bb_MO_count 28 = .ok (.aload_n 0, 1) := by decide +kernel
theorem dd_MO_count_29 : decode bb_MO_count 29 = .ok (.iload_n 1, 1) := by decide +kernel
theorem dd_MO_count_30 : decode bb_MO_count 30 = .ok (.invokevirtual 60, 3) := by decide +kernel
theorem dd_MO_count_33 : decode bb_MO_count 33 = .ok (.ireturn, 1) := by decide +kernel
def ff_MO_count  (x : St) (v0 : Nat) (v1 : Int32) : Option (Int32 × St) := bnd (ff_MO_in x v1 0 7) (fun r_1 x_2 => (if r_1 = 0 then bnd (ff_MO_bad x_2 v0) (fun r_9 x_10 => some (r_9, x_10)) else (if v1 = 7 then some (gi x_2 v0 7, x_2) else bnd (ff_MO_get x_2 v0 v1) (fun r_6 x_7 => some (r_6, x_7)))))
set_option maxHeartbeats 4000000 in
set_option maxRecDepth 100000 in
theorem ww_MO_count {p : Program} {l : Launch} {e : Env} {s : State} {m : MethodId} {args : Array Value} {below : List Frame} {meth : Method} {c : Code} {E : Ev} {A : Nat → Prop} {ad : Nat → Nat} {r : Int32} {x' : St} (C0 : Cx E A RMO bb_MO_count 2 (some .int) p s m args meth c) (hap : Ap ad ixM A)  {x : St} {v0 : Nat} {v1 : Int32} (ho_v0 : isO ixM v0 6) (hf : ff_MO_count x v0 v1 = some (r, x')) {H : Heap} {locs : List Loc} {ls : Array Slot} (hP : Wd E ad ixM x H) (hS : va_S A s.heap H locs) (hl : lv_has ls 2 [(0, .ref (ad v0)), (1, .int v1)]) : W p l e rm_MO_count s m args below meth c H locs 0 0 (MQ below (QX E ad ixM A (some (.int r)) x') args s 0 0 A) (F0 m 0 ls []) := by
  obtain ⟨hx, hb, hml, hr, hown, hts, hlk, hK⟩ := id C0
  have hf : bnd (ff_MO_in x v1 0 7) (fun r_1 x_2 => (if r_1 = 0 then bnd (ff_MO_bad x_2 v0) (fun r_9 x_10 => some (r_9, x_10)) else (if v1 = 7 then some (gi x_2 v0 7, x_2) else bnd (ff_MO_get x_2 v0 v1) (fun r_6 x_7 => some (r_6, x_7))))) = some (r, x') := hf
  refine lv_iload_n hx hb dd_MO_count_0 rfl (lv_at hl 1 rfl) ?_
  refine lv_iconst (v := 0) hx hb dd_MO_count_1 (by decide) ?_
  refine lv_bipush (v := 7) hx hb dd_MO_count_2 (by decide) ?_
  obtain ⟨r_1, x_2, c_3, hf⟩ := of_bnd hf
  refine cl_MO_64 C0 hap  c_3 hP hS ⟨Nat.le_of_ble_eq_true rfl, Nat.le_of_ble_eq_true rfl⟩ hl.1 (Nat.le_of_ble_eq_true rfl) dd_MO_count_4 ⟨Nat.le_refl _, Nat.le_refl _⟩ (fun H locs hP hS => ?_)
  refine lv_if_ne (tgt := 15) hx hb dd_MO_count_7 (by decide) (fun h_4 => ?_) (fun h_4 => ?_)
  · have hf := (if_neg h_4).symm.trans hf
    refine lv_iload_n hx hb dd_MO_count_15 rfl (lv_at hl 1 rfl) ?_
    refine lv_bipush (v := 7) hx hb dd_MO_count_16 (by decide) ?_
    refine lv_icmp_ne (tgt := 28) hx hb dd_MO_count_18 (by decide) (fun h_5 => ?_) (fun h_5 => ?_)
    · have hf := (if_neg h_5).symm.trans hf
      refine lv_aload_n hx hb dd_MO_count_28 rfl (lv_at hl 0 rfl) ?_
      refine lv_iload_n hx hb dd_MO_count_29 rfl (lv_at hl 1 rfl) ?_
      obtain ⟨r_6, x_7, c_8, hf⟩ := of_bnd hf
      refine cl_MO_60 C0 hap ho_v0 c_8 hP hS ⟨Nat.le_of_ble_eq_true rfl, Nat.le_of_ble_eq_true rfl⟩ hl.1 (Nat.le_of_ble_eq_true rfl) dd_MO_count_30 ⟨Nat.le_refl _, Nat.le_refl _⟩ (fun H locs hP hS => ?_)
      exact rrI C0 hP hS dd_MO_count_33 hf
    · have hf := (if_pos h_5).symm.trans hf
      refine lv_aload_n hx hb dd_MO_count_21 rfl (lv_at hl 0 rfl) ?_
      refine gf_MO_118 C0 hP ho_v0 dd_MO_count_22 ?_
      refine lv_goto (tgt := 33) hx hb dd_MO_count_25 (by decide) ?_
      exact rrI C0 hP hS dd_MO_count_33 hf
  · have hf := (if_pos h_4).symm.trans hf
    refine lv_aload_n hx hb dd_MO_count_10 rfl (lv_at hl 0 rfl) ?_
    obtain ⟨r_9, x_10, c_11, hf⟩ := of_bnd hf
    refine cl_MO_72 C0 hap ho_v0 c_11 hP hS ⟨Nat.le_of_ble_eq_true rfl, Nat.le_of_ble_eq_true rfl⟩ hl.1 (Nat.le_of_ble_eq_true rfl) dd_MO_count_11 ⟨Nat.le_refl _, Nat.le_refl _⟩ (fun H locs hP hS => ?_)
    exact rrI C0 hP hS dd_MO_count_14 hf
theorem cc_MO_count {l : Launch} {E : Ev} {A : Nat → Prop} {ad : Nat → Nat} (hap : Ap ad ixM A) {x x' : St} {v0 : Nat} {v1 : Int32} {r : Int32} (ho_v0 : isO ixM v0 6) (hf : ff_MO_count x v0 v1 = some (r, x')) : Met l yy_MO_count (Cond.code yy_MO_count bb_MO_count 2 (some .int) :: gtb) rm_MO_count (va_Pc [.ref (ad v0), .int v1] (PB E A ad ixM x)) (QX E ad ixM A (some (.int r)) x') 0 0 A := by
  exact enter (by decide) (Nat.le_of_ble_eq_true rfl) (fun p e s m below meth c ls C0 hP hS hl => ww_MO_count C0 hap ho_v0 hf hP hS hl)
abbrev rm_MO_digestRow : Room := { frames := 1, cells := 0, slots := 0, locals := 21 }
theorem dd_MO_digestRow_0 : decode bb_MO_digestRow 0 = .ok (.iload_n 1, 1) := by decide +kernel
theorem dd_MO_digestRow_1 : decode bb_MO_digestRow 1 = .ok (.istore_n 3, 1) := by decide +kernel
theorem dd_MO_digestRow_2 : decode bb_MO_digestRow 2 = .ok (.iload_n 3, 1) := by decide +kernel
theorem dd_MO_digestRow_3 : decode bb_MO_digestRow 3 = .ok (.iload_n 1, 1) := by decide +kernel
theorem dd_MO_digestRow_4 : decode bb_MO_digestRow 4 = .ok (.iload_n 2, 1) := by decide +kernel
theorem dd_MO_digestRow_5 : decode bb_MO_digestRow 5 = .ok (.iadd, 1) := by decide +kernel
theorem dd_MO_digestRow_6 : decode bb_MO_digestRow 6 = .ok (.if_icmp .ge 28, 3) := by decide +kernel
theorem dd_MO_digestRow_9 : decode bb_MO_digestRow 9 = .ok (.aload_n 0, 1) := by decide +kernel
theorem dd_MO_digestRow_10 : decode bb_MO_digestRow 10 = .ok (.ldc2_w 227, 3) := by decide +kernel
theorem dd_MO_digestRow_13 : decode bb_MO_digestRow 13 = .ok (.aload_n 0, 1) := by decide +kernel
theorem dd_MO_digestRow_14 : decode bb_MO_digestRow 14 = .ok (.getfield 229, 3) := by decide +kernel
theorem dd_MO_digestRow_17 : decode bb_MO_digestRow 17 = .ok (.lmul, 1) := by decide +kernel
theorem dd_MO_digestRow_18 : decode bb_MO_digestRow 18 = .ok (.aload_n 0, 1) := by decide +kernel
theorem dd_MO_digestRow_19 : decode bb_MO_digestRow 19 = .ok (.iload_n 3, 1) := by decide +kernel
theorem dd_MO_digestRow_20 : decode bb_MO_digestRow 20 = .ok (.invokevirtual 60, 3) := by decide +kernel
theorem dd_MO_digestRow_23 : decode bb_MO_digestRow 23 = .ok (.i2l, 1) := by decide +kernel
theorem dd_MO_digestRow_24 : decode bb_MO_digestRow 24 = .ok (.ladd, 1) := by decide +kernel
theorem dd_MO_digestRow_25 : decode bb_MO_digestRow 25 = .ok (.putfield 229, 3) := by decide +kernel
theorem dd_MO_digestRow_28 : decode bb_MO_digestRow 28 = .ok (.iinc 3 1, 3) := by decide +kernel
theorem dd_MO_digestRow_31 : decode bb_MO_digestRow 31 = .ok (.goto (-29), 3) := by decide +kernel
theorem dd_MO_digestRow_34 : decode bb_MO_digestRow 34 = .ok (.return_, 1) := by decide +kernel
def ff_MO_digestRow_2  : Nat → St → Nat → Int32 → Int32 → Int32 → Option (Unit × St)
  | 0, _, _, _, _, _ => none
  | n + 1, x, v0, v1, v2, v3 => (if (v1 + v2) ≤ v3 then some ((), x) else bnd (ff_MO_get x v0 v3) (fun r_2 x_3 => st (sl x_3 v0 22 ((31 * (gl x v0 22)) + (r_2.toInt64))) (fun x_5 => ff_MO_digestRow_2 n x_5 v0 v1 v2 (v3 + 1))))
def ff_MO_digestRow  (x : St) (v0 : Nat) (v1 : Int32) (v2 : Int32) : Option (Unit × St) := ff_MO_digestRow_2 FU x v0 v1 v2 v1
set_option maxHeartbeats 4000000 in
set_option maxRecDepth 100000 in
theorem ww_MO_digestRow_2 {p : Program} {l : Launch} {e : Env} {s : State} {m : MethodId} {args : Array Value} {below : List Frame} {meth : Method} {c : Code} {E : Ev} {A : Nat → Prop} {ad : Nat → Nat} {r : Unit} {x' : St} (C0 : Cx E A RMO bb_MO_digestRow 4 (none) p s m args meth c) (hap : Ap ad ixM A)  : ∀ (n : Nat), ∀ (x : St) (v0 : Nat) (v1 : Int32) (v2 : Int32) (v3 : Int32), (isO ixM v0 6) → ff_MO_digestRow_2 n x v0 v1 v2 v3 = some (r, x') → ∀ (H : Heap) (locs : List Loc) (ls : Array Slot), Wd E ad ixM x H → va_S A s.heap H locs → lv_has ls 4 [(0, .ref (ad v0)), (1, .int v1), (2, .int v2), (3, .int v3)] → W p l e rm_MO_digestRow s m args below meth c H locs 0 0 (MQ below (QX E ad ixM A (none) x') args s 0 0 A) (F0 m 2 ls []) := by
  obtain ⟨hx, hb, hml, hr, hown, hts, hlk, hK⟩ := id C0
  intro n
  induction n with
  | zero => intro x v0 v1 v2 v3 ho_v0 hf; exact of_no hf
  | succ n ih =>
    intro x v0 v1 v2 v3 ho_v0 hf H locs ls hP hS hl
    have hf : (if (v1 + v2) ≤ v3 then some ((), x) else bnd (ff_MO_get x v0 v3) (fun r_2 x_3 => st (sl x_3 v0 22 ((31 * (gl x v0 22)) + (r_2.toInt64))) (fun x_5 => ff_MO_digestRow_2 n x_5 v0 v1 v2 (v3 + 1)))) = some (r, x') := hf
    refine lv_iload_n hx hb dd_MO_digestRow_2 rfl (lv_at hl 3 rfl) ?_
    refine lv_iload_n hx hb dd_MO_digestRow_3 rfl (lv_at hl 1 rfl) ?_
    refine lv_iload_n hx hb dd_MO_digestRow_4 rfl (lv_at hl 2 rfl) ?_
    refine lv_iadd hx hb dd_MO_digestRow_5 ?_
    refine lv_icmp_ge (tgt := 34) hx hb dd_MO_digestRow_6 (by decide) (fun h_1 => ?_) (fun h_1 => ?_)
    · have hf := (if_pos h_1).symm.trans hf
      exact rrV C0 hP hS dd_MO_digestRow_34 hf
    · have hf := (if_neg h_1).symm.trans hf
      refine lv_aload_n hx hb dd_MO_digestRow_9 rfl (lv_at hl 0 rfl) ?_
      refine lv_ldc2 (v := 31) hx hb hown (hts _ gw_k_MO_227) dd_MO_digestRow_10 ?_
      refine lv_aload_n hx hb dd_MO_digestRow_13 rfl (lv_at hl 0 rfl) ?_
      refine gf_MO_229 C0 hP ho_v0 dd_MO_digestRow_14 ?_
      refine lv_lmul hx hb dd_MO_digestRow_17 ?_
      refine lv_aload_n hx hb dd_MO_digestRow_18 rfl (lv_at hl 0 rfl) ?_
      refine lv_iload_n hx hb dd_MO_digestRow_19 rfl (lv_at hl 3 rfl) ?_
      obtain ⟨r_2, x_3, c_4, hf⟩ := of_bnd hf
      refine cl_MO_60 C0 hap ho_v0 c_4 hP hS ⟨Nat.le_of_ble_eq_true rfl, Nat.le_of_ble_eq_true rfl⟩ hl.1 (Nat.le_of_ble_eq_true rfl) dd_MO_digestRow_20 ⟨Nat.le_refl _, Nat.le_refl _⟩ (fun H locs hP hS => ?_)
      refine lv_i2l hx hb dd_MO_digestRow_23 rfl ?_
      refine lv_ladd hx hb dd_MO_digestRow_24 ?_
      obtain ⟨x_5, hx_5, hf⟩ := of_st hf
      refine pf_MO_229 C0 hap hP hS ho_v0 hx_5 dd_MO_digestRow_25 (fun H locs hP hS => ?_)
      refine lv_iinc (v := v3 + 1) (lv' := [(3, .int (v3 + 1)), (0, .ref (ad v0)), (1, .int v1), (2, .int v2)]) hx hb dd_MO_digestRow_28 hl (k := 3) rfl rfl (by decide) rfl (fun ls hl => ?_)
      refine lv_goto (tgt := 2) hx hb dd_MO_digestRow_31 (by decide) ?_
      exact ih x_5 v0 v1 v2 (v3 + 1) ho_v0 hf _ _ _ hP hS (lv_sub hl [1, 2, 3, 0] rfl)
set_option maxHeartbeats 4000000 in
set_option maxRecDepth 100000 in
theorem ww_MO_digestRow {p : Program} {l : Launch} {e : Env} {s : State} {m : MethodId} {args : Array Value} {below : List Frame} {meth : Method} {c : Code} {E : Ev} {A : Nat → Prop} {ad : Nat → Nat} {r : Unit} {x' : St} (C0 : Cx E A RMO bb_MO_digestRow 4 (none) p s m args meth c) (hap : Ap ad ixM A)  {x : St} {v0 : Nat} {v1 : Int32} {v2 : Int32} (ho_v0 : isO ixM v0 6) (hf : ff_MO_digestRow x v0 v1 v2 = some (r, x')) {H : Heap} {locs : List Loc} {ls : Array Slot} (hP : Wd E ad ixM x H) (hS : va_S A s.heap H locs) (hl : lv_has ls 4 [(0, .ref (ad v0)), (1, .int v1), (2, .int v2)]) : W p l e rm_MO_digestRow s m args below meth c H locs 0 0 (MQ below (QX E ad ixM A (none) x') args s 0 0 A) (F0 m 0 ls []) := by
  obtain ⟨hx, hb, hml, hr, hown, hts, hlk, hK⟩ := id C0
  have hf : ff_MO_digestRow_2 FU x v0 v1 v2 v1 = some (r, x') := hf
  refine lv_iload_n hx hb dd_MO_digestRow_0 rfl (lv_at hl 1 rfl) ?_
  refine lv_istore_n (lv' := [(3, .int v1), (0, .ref (ad v0)), (1, .int v1), (2, .int v2)]) hx hb dd_MO_digestRow_1 rfl hl (by decide) rfl (fun ls hl => ?_)
  exact ww_MO_digestRow_2 C0 hap  FU x v0 v1 v2 v1 ho_v0 hf _ _ _ hP hS (lv_sub hl [1, 2, 3, 0] rfl)
theorem cc_MO_digestRow {l : Launch} {E : Ev} {A : Nat → Prop} {ad : Nat → Nat} (hap : Ap ad ixM A) {x x' : St} {v0 : Nat} {v1 : Int32} {v2 : Int32} {r : Unit} (ho_v0 : isO ixM v0 6) (hf : ff_MO_digestRow x v0 v1 v2 = some (r, x')) : Met l yy_MO_digestRow (Cond.code yy_MO_digestRow bb_MO_digestRow 4 (none) :: gtb) rm_MO_digestRow (va_Pc [.ref (ad v0), .int v1, .int v2] (PB E A ad ixM x)) (QX E ad ixM A (none) x') 0 0 A := by
  exact enter (by decide) (Nat.le_of_ble_eq_true rfl) (fun p e s m below meth c ls C0 hP hS hl => ww_MO_digestRow C0 hap ho_v0 hf hP hS hl)
theorem cl_MO_234 {p : Program} {l : Launch} {e : Env} {R : Room} {s : State} {m : MethodId} {args : Array Value} {below : List Frame} {meth : Method} {c : Code} {H : Heap} {locs : List Loc} {cells slots : Nat} {Q : State → Prop} {cc : ByteArray} {pc : Nat} {ls : Array Slot} {rest : List Value} {E : Ev} {A : Nat → Prop} {ad : Nat → Nat} {nL : Nat} {rt : Option FieldType} (C0 : Cx E A RMO cc nL rt p s m args meth c) (hap : Ap ad ixM A) {x x' : St} {v0 : Nat} {v1 : Int32} {v2 : Int32} {r : Unit} (ho_v0 : isO ixM v0 6) (hc : ff_MO_digestRow x v0 v1 v2 = some (r, x')) (hP : Wd E ad ixM x H) (hS : va_S A s.heap H locs) (hR : rm_MO_digestRow.frames + 1 ≤ R.frames ∧ 8 + (4 + 11) + rm_MO_digestRow.locals ≤ R.locals) (hls : ls.size = nL) (hroom : (rest.map fun v => v.category).sum ≤ 8) (hdg : decode cc pc = .ok (.invokevirtual 234, 3)) (hf : cells ≤ R.cells ∧ slots ≤ R.slots) (kk : ∀ H1 locs1, Wd E ad ixM x' H1 → va_S A s.heap H1 locs1 → W p l e R s m args below meth c H1 locs1 cells slots Q (F0 m (pc + 3) ls (rest))) : W p l e R s m args below meth c H locs cells slots Q (F0 m pc ls (.int v2 :: .int v1 :: .ref (ad v0) :: rest)) :=
  rcV (n := 2) C0 (cc_MO_digestRow hap ho_v0 hc) hP hS ho_v0 vcl_6 (by decide) gw_code_MO_digestRow gw_m_MO_234 gw_inst_MO_digestRow gw_sel_MO_digestRow gw_ini_MO rfl rfl (by decide +kernel) rfl hR hls rfl hroom hdg hf (fun H1 locs1 a _ _ b => kk H1 locs1 a b)
abbrev rm_MO_digest : Room := { frames := 2, cells := 0, slots := 0, locals := 44 }
theorem dd_MO_digest_0 : decode bb_MO_digest 0 = .ok (.aload_n 0, 1) := by decide +kernel
theorem dd_MO_digest_1 : decode bb_MO_digest 1 = .ok (.ldc2_w 232, 3) := by decide +kernel
theorem dd_MO_digest_4 : decode bb_MO_digest 4 = .ok (.putfield 229, 3) := by decide +kernel
theorem dd_MO_digest_7 : decode bb_MO_digest 7 = .ok (.aload_n 0, 1) := by decide +kernel
theorem dd_MO_digest_8 : decode bb_MO_digest 8 = .ok (.iconst 0, 1) := by decide +kernel
theorem dd_MO_digest_9 : decode bb_MO_digest 9 = .ok (.bipush 7, 2) := by decide +kernel
theorem dd_MO_digest_11 : decode bb_MO_digest 11 = .ok (.invokevirtual 234, 3) := by decide +kernel
theorem dd_MO_digest_14 : decode bb_MO_digest 14 = .ok (.aload_n 0, 1) := by decide +kernel
theorem dd_MO_digest_15 : decode bb_MO_digest 15 = .ok (.ldc2_w 227, 3) := by decide +kernel
theorem dd_MO_digest_18 : decode bb_MO_digest 18 = .ok (.aload_n 0, 1) := by decide +kernel
theorem dd_MO_digest_19 : decode bb_MO_digest 19 = .ok (.getfield 229, 3) := by decide +kernel
theorem dd_MO_digest_22 : decode bb_MO_digest 22 = .ok (.lmul, 1) := by decide +kernel
theorem dd_MO_digest_23 : decode bb_MO_digest 23 = .ok (.aload_n 0, 1) := by decide +kernel
theorem dd_MO_digest_24 : decode bb_MO_digest 24 = .ok (.getfield 118, 3) := by decide +kernel
theorem dd_MO_digest_27 : decode bb_MO_digest 27 = .ok (.i2l, 1) := by decide +kernel
theorem dd_MO_digest_28 : decode bb_MO_digest 28 = .ok (.ladd, 1) := by decide +kernel
theorem dd_MO_digest_29 : decode bb_MO_digest 29 = .ok (.putfield 229, 3) := by decide +kernel
theorem dd_MO_digest_32 : decode bb_MO_digest 32 = .ok (.aload_n 0, 1) := by decide +kernel
theorem dd_MO_digest_33 : decode bb_MO_digest 33 = .ok (.bipush 7, 2) := by decide +kernel
theorem dd_MO_digest_35 : decode bb_MO_digest 35 = .ok (.iconst 3, 1) := by decide +kernel
theorem dd_MO_digest_36 : decode bb_MO_digest 36 = .ok (.aload_n 0, 1) := by decide +kernel
theorem dd_MO_digest_37 : decode bb_MO_digest 37 = .ok (.iconst 0, 1) := by decide +kernel
theorem dd_MO_digest_38 : decode bb_MO_digest 38 = .ok (.invokevirtual 60, 3) := by decide +kernel
theorem dd_MO_digest_41 : decode bb_MO_digest 41 = .ok (.imul, 1) := by decide +kernel
theorem dd_MO_digest_42 : decode bb_MO_digest 42 = .ok (.invokevirtual 234, 3) := by decide +kernel
theorem dd_MO_digest_45 : decode bb_MO_digest 45 = .ok (.aload_n 0, 1) := by decide +kernel
theorem dd_MO_digest_46 : decode bb_MO_digest 46 = .ok (.bipush 25, 2) := by decide +kernel
theorem dd_MO_digest_48 : decode bb_MO_digest 48 = .ok (.iconst 4, 1) := by decide +kernel
theorem dd_MO_digest_49 : decode bb_MO_digest 49 = .ok (.aload_n 0, 1) := by decide +kernel
theorem dd_MO_digest_50 : decode bb_MO_digest 50 = .ok (.iconst 1, 1) := by decide +kernel
theorem dd_MO_digest_51 : decode bb_MO_digest 51 = .ok (.invokevirtual 60, 3) := by decide +kernel
theorem dd_MO_digest_54 : decode bb_MO_digest 54 = .ok (.imul, 1) := by decide +kernel
theorem dd_MO_digest_55 : decode bb_MO_digest 55 = .ok (.invokevirtual 234, 3) := by decide +kernel
theorem dd_MO_digest_58 : decode bb_MO_digest 58 = .ok (.aload_n 0, 1) := by decide +kernel
theorem dd_MO_digest_59 : decode bb_MO_digest 59 = .ok (.bipush 49, 2) := by decide +kernel
theorem dd_MO_digest_61 : decode bb_MO_digest 61 = .ok (.iconst 2, 1) := by decide +kernel
theorem dd_MO_digest_62 : decode bb_MO_digest 62 = .ok (.aload_n 0, 1) := by decide +kernel
theorem dd_MO_digest_63 : decode bb_MO_digest 63 = .ok (.iconst 2, 1) := by decide +kernel
theorem dd_MO_digest_64 : decode bb_MO_digest 64 = .ok (.invokevirtual 60, 3) := by decide +kernel
theorem dd_MO_digest_67 : decode bb_MO_digest 67 = .ok (.imul, 1) := by decide +kernel
theorem dd_MO_digest_68 : decode bb_MO_digest 68 = .ok (.invokevirtual 234, 3) := by decide +kernel
theorem dd_MO_digest_71 : decode bb_MO_digest 71 = .ok (.aload_n 0, 1) := by decide +kernel
theorem dd_MO_digest_72 : decode bb_MO_digest 72 = .ok (.bipush 57, 2) := by decide +kernel
theorem dd_MO_digest_74 : decode bb_MO_digest 74 = .ok (.iconst 3, 1) := by decide +kernel
theorem dd_MO_digest_75 : decode bb_MO_digest 75 = .ok (.aload_n 0, 1) := by decide +kernel
theorem dd_MO_digest_76 : decode bb_MO_digest 76 = .ok (.iconst 3, 1) := by decide +kernel
theorem dd_MO_digest_77 : decode bb_MO_digest 77 = .ok (.invokevirtual 60, 3) := by decide +kernel
theorem dd_MO_digest_80 : decode bb_MO_digest 80 = .ok (.imul, 1) := by decide +kernel
theorem dd_MO_digest_81 : decode bb_MO_digest 81 = .ok (.invokevirtual 234, 3) := by decide +kernel
theorem dd_MO_digest_84 : decode bb_MO_digest 84 = .ok (.aload_n 0, 1) := by decide +kernel
theorem dd_MO_digest_85 : decode bb_MO_digest 85 = .ok (.bipush 87, 2) := by decide +kernel
theorem dd_MO_digest_87 : decode bb_MO_digest 87 = .ok (.iconst 3, 1) := by decide +kernel
theorem dd_MO_digest_88 : decode bb_MO_digest 88 = .ok (.aload_n 0, 1) := by decide +kernel
theorem dd_MO_digest_89 : decode bb_MO_digest 89 = .ok (.iconst 4, 1) := by decide +kernel
theorem dd_MO_digest_90 : decode bb_MO_digest 90 = .ok (.invokevirtual 60, 3) := by decide +kernel
theorem dd_MO_digest_93 : decode bb_MO_digest 93 = .ok (.imul, 1) := by decide +kernel
theorem dd_MO_digest_94 : decode bb_MO_digest 94 = .ok (.invokevirtual 234, 3) := by decide +kernel
theorem dd_MO_digest_97 : decode bb_MO_digest 97 = .ok (.aload_n 0, 1) := by decide +kernel
theorem dd_MO_digest_98 : decode bb_MO_digest 98 = .ok (.ldc2_w 227, 3) := by decide +kernel
theorem dd_MO_digest_101 : decode bb_MO_digest 101 = .ok (.aload_n 0, 1) := by decide +kernel
theorem dd_MO_digest_102 : decode bb_MO_digest 102 = .ok (.getfield 229, 3) := by decide +kernel
theorem dd_MO_digest_105 : decode bb_MO_digest 105 = .ok (.lmul, 1) := by decide +kernel
theorem dd_MO_digest_106 : decode bb_MO_digest 106 = .ok (.aload_n 0, 1) := by decide +kernel
theorem dd_MO_digest_107 : decode bb_MO_digest 107 = .ok (.getfield 224, 3) := by decide +kernel
theorem dd_MO_digest_110 : decode bb_MO_digest 110 = .ok (.ladd, 1) := by decide +kernel
theorem dd_MO_digest_111 : decode bb_MO_digest 111 = .ok (.putfield 229, 3) := by decide +kernel
theorem dd_MO_digest_114 : decode bb_MO_digest 114 = .ok (.ldc2_w 227, 3) := by decide +kernel
theorem dd_MO_digest_117 : decode bb_MO_digest 117 = .ok (.aload_n 0, 1) := by decide +kernel
theorem dd_MO_digest_118 : decode bb_MO_digest 118 = .ok (.getfield 229, 3) := by decide +kernel
theorem dd_MO_digest_121 : decode bb_MO_digest 121 = .ok (.lmul, 1) := by decide +kernel
theorem dd_MO_digest_122 : decode bb_MO_digest 122 = .ok (.aload_n 0, 1) := by decide +kernel
theorem dd_MO_digest_123 : decode bb_MO_digest 123 = .ok (.getfield 53, 3) := by decide +kernel
theorem dd_MO_digest_126 : decode bb_MO_digest 126 = .ok (.ladd, 1) := by decide +kernel
theorem dd_MO_digest_127 : decode bb_MO_digest 127 = .ok (.lreturn, 1) := by decide +kernel
def ff_MO_digest  (x : St) (v0 : Nat) : Option (Int64 × St) := st (sl x v0 22 797) (fun x_1 => bnd (ff_MO_digestRow x_1 v0 0 7) (fun _ x_3 => st (sl x_3 v0 22 ((31 * (gl x_3 v0 22)) + ((gi x_3 v0 7).toInt64))) (fun x_5 => bnd (ff_MO_get x_5 v0 0) (fun r_6 x_7 => bnd (ff_MO_digestRow x_7 v0 7 (3 * r_6)) (fun _ x_10 => bnd (ff_MO_get x_10 v0 1) (fun r_12 x_13 => bnd (ff_MO_digestRow x_13 v0 25 (4 * r_12)) (fun _ x_16 => bnd (ff_MO_get x_16 v0 2) (fun r_18 x_19 => bnd (ff_MO_digestRow x_19 v0 49 (2 * r_18)) (fun _ x_22 => bnd (ff_MO_get x_22 v0 3) (fun r_24 x_25 => bnd (ff_MO_digestRow x_25 v0 57 (3 * r_24)) (fun _ x_28 => bnd (ff_MO_get x_28 v0 4) (fun r_30 x_31 => bnd (ff_MO_digestRow x_31 v0 87 (3 * r_30)) (fun _ x_34 => st (sl x_34 v0 22 ((31 * (gl x_34 v0 22)) + (gl x_34 v0 4))) (fun x_36 => some ((31 * (gl x_36 v0 22)) + (gl x_36 v0 5), x_36)))))))))))))))
set_option maxHeartbeats 4000000 in
set_option maxRecDepth 100000 in
theorem ww_MO_digest {p : Program} {l : Launch} {e : Env} {s : State} {m : MethodId} {args : Array Value} {below : List Frame} {meth : Method} {c : Code} {E : Ev} {A : Nat → Prop} {ad : Nat → Nat} {r : Int64} {x' : St} (C0 : Cx E A RMO bb_MO_digest 1 (some .long) p s m args meth c) (hap : Ap ad ixM A)  {x : St} {v0 : Nat} (ho_v0 : isO ixM v0 6) (hf : ff_MO_digest x v0 = some (r, x')) {H : Heap} {locs : List Loc} {ls : Array Slot} (hP : Wd E ad ixM x H) (hS : va_S A s.heap H locs) (hl : lv_has ls 1 [(0, .ref (ad v0))]) : W p l e rm_MO_digest s m args below meth c H locs 0 0 (MQ below (QX E ad ixM A (some (.long r)) x') args s 0 0 A) (F0 m 0 ls []) := by
  obtain ⟨hx, hb, hml, hr, hown, hts, hlk, hK⟩ := id C0
  have hf : st (sl x v0 22 797) (fun x_1 => bnd (ff_MO_digestRow x_1 v0 0 7) (fun _ x_3 => st (sl x_3 v0 22 ((31 * (gl x_3 v0 22)) + ((gi x_3 v0 7).toInt64))) (fun x_5 => bnd (ff_MO_get x_5 v0 0) (fun r_6 x_7 => bnd (ff_MO_digestRow x_7 v0 7 (3 * r_6)) (fun _ x_10 => bnd (ff_MO_get x_10 v0 1) (fun r_12 x_13 => bnd (ff_MO_digestRow x_13 v0 25 (4 * r_12)) (fun _ x_16 => bnd (ff_MO_get x_16 v0 2) (fun r_18 x_19 => bnd (ff_MO_digestRow x_19 v0 49 (2 * r_18)) (fun _ x_22 => bnd (ff_MO_get x_22 v0 3) (fun r_24 x_25 => bnd (ff_MO_digestRow x_25 v0 57 (3 * r_24)) (fun _ x_28 => bnd (ff_MO_get x_28 v0 4) (fun r_30 x_31 => bnd (ff_MO_digestRow x_31 v0 87 (3 * r_30)) (fun _ x_34 => st (sl x_34 v0 22 ((31 * (gl x_34 v0 22)) + (gl x_34 v0 4))) (fun x_36 => some ((31 * (gl x_36 v0 22)) + (gl x_36 v0 5), x_36))))))))))))))) = some (r, x') := hf
  refine lv_aload_n hx hb dd_MO_digest_0 rfl (lv_at hl 0 rfl) ?_
  refine lv_ldc2 (v := 797) hx hb hown (hts _ gw_k_MO_232) dd_MO_digest_1 ?_
  obtain ⟨x_1, hx_1, hf⟩ := of_st hf
  refine pf_MO_229 C0 hap hP hS ho_v0 hx_1 dd_MO_digest_4 (fun H locs hP hS => ?_)
  refine lv_aload_n hx hb dd_MO_digest_7 rfl (lv_at hl 0 rfl) ?_
  refine lv_iconst (v := 0) hx hb dd_MO_digest_8 (by decide) ?_
  refine lv_bipush (v := 7) hx hb dd_MO_digest_9 (by decide) ?_
  obtain ⟨_, x_3, c_4, hf⟩ := of_bnd hf
  refine cl_MO_234 C0 hap ho_v0 c_4 hP hS ⟨Nat.le_of_ble_eq_true rfl, Nat.le_of_ble_eq_true rfl⟩ hl.1 (Nat.le_of_ble_eq_true rfl) dd_MO_digest_11 ⟨Nat.le_refl _, Nat.le_refl _⟩ (fun H locs hP hS => ?_)
  refine lv_aload_n hx hb dd_MO_digest_14 rfl (lv_at hl 0 rfl) ?_
  refine lv_ldc2 (v := 31) hx hb hown (hts _ gw_k_MO_227) dd_MO_digest_15 ?_
  refine lv_aload_n hx hb dd_MO_digest_18 rfl (lv_at hl 0 rfl) ?_
  refine gf_MO_229 C0 hP ho_v0 dd_MO_digest_19 ?_
  refine lv_lmul hx hb dd_MO_digest_22 ?_
  refine lv_aload_n hx hb dd_MO_digest_23 rfl (lv_at hl 0 rfl) ?_
  refine gf_MO_118 C0 hP ho_v0 dd_MO_digest_24 ?_
  refine lv_i2l hx hb dd_MO_digest_27 rfl ?_
  refine lv_ladd hx hb dd_MO_digest_28 ?_
  obtain ⟨x_5, hx_5, hf⟩ := of_st hf
  refine pf_MO_229 C0 hap hP hS ho_v0 hx_5 dd_MO_digest_29 (fun H locs hP hS => ?_)
  refine lv_aload_n hx hb dd_MO_digest_32 rfl (lv_at hl 0 rfl) ?_
  refine lv_bipush (v := 7) hx hb dd_MO_digest_33 (by decide) ?_
  refine lv_iconst (v := 3) hx hb dd_MO_digest_35 (by decide) ?_
  refine lv_aload_n hx hb dd_MO_digest_36 rfl (lv_at hl 0 rfl) ?_
  refine lv_iconst (v := 0) hx hb dd_MO_digest_37 (by decide) ?_
  obtain ⟨r_6, x_7, c_8, hf⟩ := of_bnd hf
  refine cl_MO_60 C0 hap ho_v0 c_8 hP hS ⟨Nat.le_of_ble_eq_true rfl, Nat.le_of_ble_eq_true rfl⟩ hl.1 (Nat.le_of_ble_eq_true rfl) dd_MO_digest_38 ⟨Nat.le_refl _, Nat.le_refl _⟩ (fun H locs hP hS => ?_)
  refine lv_imul hx hb dd_MO_digest_41 ?_
  obtain ⟨_, x_10, c_11, hf⟩ := of_bnd hf
  refine cl_MO_234 C0 hap ho_v0 c_11 hP hS ⟨Nat.le_of_ble_eq_true rfl, Nat.le_of_ble_eq_true rfl⟩ hl.1 (Nat.le_of_ble_eq_true rfl) dd_MO_digest_42 ⟨Nat.le_refl _, Nat.le_refl _⟩ (fun H locs hP hS => ?_)
  refine lv_aload_n hx hb dd_MO_digest_45 rfl (lv_at hl 0 rfl) ?_
  refine lv_bipush (v := 25) hx hb dd_MO_digest_46 (by decide) ?_
  refine lv_iconst (v := 4) hx hb dd_MO_digest_48 (by decide) ?_
  refine lv_aload_n hx hb dd_MO_digest_49 rfl (lv_at hl 0 rfl) ?_
  refine lv_iconst (v := 1) hx hb dd_MO_digest_50 (by decide) ?_
  obtain ⟨r_12, x_13, c_14, hf⟩ := of_bnd hf
  refine cl_MO_60 C0 hap ho_v0 c_14 hP hS ⟨Nat.le_of_ble_eq_true rfl, Nat.le_of_ble_eq_true rfl⟩ hl.1 (Nat.le_of_ble_eq_true rfl) dd_MO_digest_51 ⟨Nat.le_refl _, Nat.le_refl _⟩ (fun H locs hP hS => ?_)
  refine lv_imul hx hb dd_MO_digest_54 ?_
  obtain ⟨_, x_16, c_17, hf⟩ := of_bnd hf
  refine cl_MO_234 C0 hap ho_v0 c_17 hP hS ⟨Nat.le_of_ble_eq_true rfl, Nat.le_of_ble_eq_true rfl⟩ hl.1 (Nat.le_of_ble_eq_true rfl) dd_MO_digest_55 ⟨Nat.le_refl _, Nat.le_refl _⟩ (fun H locs hP hS => ?_)
  refine lv_aload_n hx hb dd_MO_digest_58 rfl (lv_at hl 0 rfl) ?_
  refine lv_bipush (v := 49) hx hb dd_MO_digest_59 (by decide) ?_
  refine lv_iconst (v := 2) hx hb dd_MO_digest_61 (by decide) ?_
  refine lv_aload_n hx hb dd_MO_digest_62 rfl (lv_at hl 0 rfl) ?_
  refine lv_iconst (v := 2) hx hb dd_MO_digest_63 (by decide) ?_
  obtain ⟨r_18, x_19, c_20, hf⟩ := of_bnd hf
  refine cl_MO_60 C0 hap ho_v0 c_20 hP hS ⟨Nat.le_of_ble_eq_true rfl, Nat.le_of_ble_eq_true rfl⟩ hl.1 (Nat.le_of_ble_eq_true rfl) dd_MO_digest_64 ⟨Nat.le_refl _, Nat.le_refl _⟩ (fun H locs hP hS => ?_)
  refine lv_imul hx hb dd_MO_digest_67 ?_
  obtain ⟨_, x_22, c_23, hf⟩ := of_bnd hf
  refine cl_MO_234 C0 hap ho_v0 c_23 hP hS ⟨Nat.le_of_ble_eq_true rfl, Nat.le_of_ble_eq_true rfl⟩ hl.1 (Nat.le_of_ble_eq_true rfl) dd_MO_digest_68 ⟨Nat.le_refl _, Nat.le_refl _⟩ (fun H locs hP hS => ?_)
  refine lv_aload_n hx hb dd_MO_digest_71 rfl (lv_at hl 0 rfl) ?_
  refine lv_bipush (v := 57) hx hb dd_MO_digest_72 (by decide) ?_
  refine lv_iconst (v := 3) hx hb dd_MO_digest_74 (by decide) ?_
  refine lv_aload_n hx hb dd_MO_digest_75 rfl (lv_at hl 0 rfl) ?_
  refine lv_iconst (v := 3) hx hb dd_MO_digest_76 (by decide) ?_
  obtain ⟨r_24, x_25, c_26, hf⟩ := of_bnd hf
  refine cl_MO_60 C0 hap ho_v0 c_26 hP hS ⟨Nat.le_of_ble_eq_true rfl, Nat.le_of_ble_eq_true rfl⟩ hl.1 (Nat.le_of_ble_eq_true rfl) dd_MO_digest_77 ⟨Nat.le_refl _, Nat.le_refl _⟩ (fun H locs hP hS => ?_)
  refine lv_imul hx hb dd_MO_digest_80 ?_
  obtain ⟨_, x_28, c_29, hf⟩ := of_bnd hf
  refine cl_MO_234 C0 hap ho_v0 c_29 hP hS ⟨Nat.le_of_ble_eq_true rfl, Nat.le_of_ble_eq_true rfl⟩ hl.1 (Nat.le_of_ble_eq_true rfl) dd_MO_digest_81 ⟨Nat.le_refl _, Nat.le_refl _⟩ (fun H locs hP hS => ?_)
  refine lv_aload_n hx hb dd_MO_digest_84 rfl (lv_at hl 0 rfl) ?_
  refine lv_bipush (v := 87) hx hb dd_MO_digest_85 (by decide) ?_
  refine lv_iconst (v := 3) hx hb dd_MO_digest_87 (by decide) ?_
  refine lv_aload_n hx hb dd_MO_digest_88 rfl (lv_at hl 0 rfl) ?_
  refine lv_iconst (v := 4) hx hb dd_MO_digest_89 (by decide) ?_
  obtain ⟨r_30, x_31, c_32, hf⟩ := of_bnd hf
  refine cl_MO_60 C0 hap ho_v0 c_32 hP hS ⟨Nat.le_of_ble_eq_true rfl, Nat.le_of_ble_eq_true rfl⟩ hl.1 (Nat.le_of_ble_eq_true rfl) dd_MO_digest_90 ⟨Nat.le_refl _, Nat.le_refl _⟩ (fun H locs hP hS => ?_)
  refine lv_imul hx hb dd_MO_digest_93 ?_
  obtain ⟨_, x_34, c_35, hf⟩ := of_bnd hf
  refine cl_MO_234 C0 hap ho_v0 c_35 hP hS ⟨Nat.le_of_ble_eq_true rfl, Nat.le_of_ble_eq_true rfl⟩ hl.1 (Nat.le_of_ble_eq_true rfl) dd_MO_digest_94 ⟨Nat.le_refl _, Nat.le_refl _⟩ (fun H locs hP hS => ?_)
  refine lv_aload_n hx hb dd_MO_digest_97 rfl (lv_at hl 0 rfl) ?_
  refine lv_ldc2 (v := 31) hx hb hown (hts _ gw_k_MO_227) dd_MO_digest_98 ?_
  refine lv_aload_n hx hb dd_MO_digest_101 rfl (lv_at hl 0 rfl) ?_
  refine gf_MO_229 C0 hP ho_v0 dd_MO_digest_102 ?_
  refine lv_lmul hx hb dd_MO_digest_105 ?_
  refine lv_aload_n hx hb dd_MO_digest_106 rfl (lv_at hl 0 rfl) ?_
  refine gf_MO_224 C0 hP ho_v0 dd_MO_digest_107 ?_
  refine lv_ladd hx hb dd_MO_digest_110 ?_
  obtain ⟨x_36, hx_36, hf⟩ := of_st hf
  refine pf_MO_229 C0 hap hP hS ho_v0 hx_36 dd_MO_digest_111 (fun H locs hP hS => ?_)
  refine lv_ldc2 (v := 31) hx hb hown (hts _ gw_k_MO_227) dd_MO_digest_114 ?_
  refine lv_aload_n hx hb dd_MO_digest_117 rfl (lv_at hl 0 rfl) ?_
  refine gf_MO_229 C0 hP ho_v0 dd_MO_digest_118 ?_
  refine lv_lmul hx hb dd_MO_digest_121 ?_
  refine lv_aload_n hx hb dd_MO_digest_122 rfl (lv_at hl 0 rfl) ?_
  refine gf_MO_53 C0 hP ho_v0 dd_MO_digest_123 ?_
  refine lv_ladd hx hb dd_MO_digest_126 ?_
  exact rrL C0 hP hS dd_MO_digest_127 hf
theorem cc_MO_digest {l : Launch} {E : Ev} {A : Nat → Prop} {ad : Nat → Nat} (hap : Ap ad ixM A) {x x' : St} {v0 : Nat} {r : Int64} (ho_v0 : isO ixM v0 6) (hf : ff_MO_digest x v0 = some (r, x')) : Met l yy_MO_digest (Cond.code yy_MO_digest bb_MO_digest 1 (some .long) :: gtb) rm_MO_digest (va_Pc [.ref (ad v0)] (PB E A ad ixM x)) (QX E ad ixM A (some (.long r)) x') 0 0 A := by
  exact enter (by decide) (Nat.le_of_ble_eq_true rfl) (fun p e s m below meth c ls C0 hP hS hl => ww_MO_digest C0 hap ho_v0 hf hP hS hl)
