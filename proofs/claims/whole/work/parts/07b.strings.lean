/-! the String constants' own methods -/
abbrev rm_PR_checkIndex : Room := { frames := 0, cells := 0, slots := 0, locals := 0 }
abbrev rm_ST_checkIndex : Room := { frames := 1, cells := 0, slots := 0, locals := 22 }
abbrev rm_SL_charAt : Room := { frames := 2, cells := 0, slots := 0, locals := 43 }
abbrev rm_ST_coder : Room := { frames := 0, cells := 0, slots := 0, locals := 0 }
abbrev rm_ST_isLatin1 : Room := { frames := 0, cells := 0, slots := 0, locals := 0 }
abbrev rm_ST_length : Room := { frames := 1, cells := 0, slots := 0, locals := 20 }
abbrev rm_ST_charAt : Room := { frames := 3, cells := 0, slots := 0, locals := 64 }
theorem dd_ST_length_0 : decode bb_ST_length 0 = .ok (.aload_n 0, 1) := by decide +kernel
theorem dd_ST_length_1 : decode bb_ST_length 1 = .ok (.getfield 9, 3) := by decide +kernel
theorem dd_ST_length_4 : decode bb_ST_length 4 = .ok (.arraylength, 1) := by decide +kernel
theorem dd_ST_length_5 : decode bb_ST_length 5 = .ok (.aload_n 0, 1) := by decide +kernel
theorem dd_ST_length_6 : decode bb_ST_length 6 = .ok (.invokevirtual 335, 3) := by decide +kernel
theorem dd_ST_length_9 : decode bb_ST_length 9 = .ok (.ishr, 1) := by decide +kernel
theorem dd_ST_length_10 : decode bb_ST_length 10 = .ok (.ireturn, 1) := by decide +kernel
theorem dd_ST_charAt_0 : decode bb_ST_charAt 0 = .ok (.aload_n 0, 1) := by decide +kernel
theorem dd_ST_charAt_1 : decode bb_ST_charAt 1 = .ok (.invokevirtual 492, 3) := by decide +kernel
theorem dd_ST_charAt_4 : decode bb_ST_charAt 4 = .ok (.ifCond .eq 12, 3) := by decide +kernel
theorem dd_ST_charAt_7 : decode bb_ST_charAt 7 = .ok (.aload_n 0, 1) := by decide +kernel
theorem dd_ST_charAt_8 : decode bb_ST_charAt 8 = .ok (.getfield 9, 3) := by decide +kernel
theorem dd_ST_charAt_11 : decode bb_ST_charAt 11 = .ok (.iload_n 1, 1) := by decide +kernel
theorem dd_ST_charAt_12 : decode bb_ST_charAt 12 = .ok (.invokestatic 495, 3) := by decide +kernel
theorem dd_ST_charAt_15 : decode bb_ST_charAt 15 = .ok (.ireturn, 1) := by decide +kernel
theorem dd_ST_charAt_16 : decode bb_ST_charAt 16 = .ok (.aload_n 0, 1) := by decide +kernel
theorem dd_ST_charAt_17 : decode bb_ST_charAt 17 = .ok (.getfield 9, 3) := by decide +kernel
theorem dd_ST_charAt_20 : decode bb_ST_charAt 20 = .ok (.iload_n 1, 1) := by decide +kernel
theorem dd_ST_charAt_21 : decode bb_ST_charAt 21 = .ok (.invokestatic 498, 3) := by decide +kernel
theorem dd_ST_charAt_24 : decode bb_ST_charAt 24 = .ok (.ireturn, 1) := by decide +kernel
theorem dd_ST_coder_0 : decode bb_ST_coder 0 = .ok (.getstatic 38, 3) := by decide +kernel
theorem dd_ST_coder_3 : decode bb_ST_coder 3 = .ok (.ifCond .eq 10, 3) := by decide +kernel
theorem dd_ST_coder_6 : decode bb_ST_coder 6 = .ok (.aload_n 0, 1) := by decide +kernel
theorem dd_ST_coder_7 : decode bb_ST_coder 7 = .ok (.getfield 15, 3) := by decide +kernel
theorem dd_ST_coder_10 : decode bb_ST_coder 10 = .ok (.goto 4, 3) := by decide +kernel
theorem dd_ST_coder_13 : decode bb_ST_coder 13 = .ok (.iconst 1, 1) := by decide +kernel
theorem dd_ST_coder_14 : decode bb_ST_coder 14 = .ok (.ireturn, 1) := by decide +kernel
theorem dd_ST_isLatin1_0 : decode bb_ST_isLatin1 0 = .ok (.getstatic 38, 3) := by decide +kernel
theorem dd_ST_isLatin1_3 : decode bb_ST_isLatin1 3 = .ok (.ifCond .eq 14, 3) := by decide +kernel
theorem dd_ST_isLatin1_6 : decode bb_ST_isLatin1 6 = .ok (.aload_n 0, 1) := by decide +kernel
theorem dd_ST_isLatin1_7 : decode bb_ST_isLatin1 7 = .ok (.getfield 15, 3) := by decide +kernel
theorem dd_ST_isLatin1_10 : decode bb_ST_isLatin1 10 = .ok (.ifCond .ne 7, 3) := by decide +kernel
theorem dd_ST_isLatin1_13 : decode bb_ST_isLatin1 13 = .ok (.iconst 1, 1) := by decide +kernel
theorem dd_ST_isLatin1_14 : decode bb_ST_isLatin1 14 = .ok (.goto 4, 3) := by decide +kernel
theorem dd_ST_isLatin1_17 : decode bb_ST_isLatin1 17 = .ok (.iconst 0, 1) := by decide +kernel
theorem dd_ST_isLatin1_18 : decode bb_ST_isLatin1 18 = .ok (.ireturn, 1) := by decide +kernel
theorem dd_ST_checkIndex_0 : decode bb_ST_checkIndex 0 = .ok (.iload_n 0, 1) := by decide +kernel
theorem dd_ST_checkIndex_1 : decode bb_ST_checkIndex 1 = .ok (.iload_n 1, 1) := by decide +kernel
theorem dd_ST_checkIndex_2 : decode bb_ST_checkIndex 2 = .ok (.getstatic 1053, 3) := by decide +kernel
theorem dd_ST_checkIndex_5 : decode bb_ST_checkIndex 5 = .ok (.invokestatic 1059, 3) := by decide +kernel
theorem dd_ST_checkIndex_8 : decode bb_ST_checkIndex 8 = .ok (.pop, 1) := by decide +kernel
theorem dd_ST_checkIndex_9 : decode bb_ST_checkIndex 9 = .ok (.return_, 1) := by decide +kernel
theorem dd_SL_charAt_0 : decode bb_SL_charAt 0 = .ok (.iload_n 1, 1) := by decide +kernel
theorem dd_SL_charAt_1 : decode bb_SL_charAt 1 = .ok (.aload_n 0, 1) := by decide +kernel
theorem dd_SL_charAt_2 : decode bb_SL_charAt 2 = .ok (.arraylength, 1) := by decide +kernel
theorem dd_SL_charAt_3 : decode bb_SL_charAt 3 = .ok (.invokestatic 9, 3) := by decide +kernel
theorem dd_SL_charAt_6 : decode bb_SL_charAt 6 = .ok (.aload_n 0, 1) := by decide +kernel
theorem dd_SL_charAt_7 : decode bb_SL_charAt 7 = .ok (.iload_n 1, 1) := by decide +kernel
theorem dd_SL_charAt_8 : decode bb_SL_charAt 8 = .ok (.baload, 1) := by decide +kernel
theorem dd_SL_charAt_9 : decode bb_SL_charAt 9 = .ok (.sipush 255, 3) := by decide +kernel
theorem dd_SL_charAt_12 : decode bb_SL_charAt 12 = .ok (.iand, 1) := by decide +kernel
theorem dd_SL_charAt_13 : decode bb_SL_charAt 13 = .ok (.i2c, 1) := by decide +kernel
theorem dd_SL_charAt_14 : decode bb_SL_charAt 14 = .ok (.ireturn, 1) := by decide +kernel
theorem dd_PR_checkIndex_0 : decode bb_PR_checkIndex 0 = .ok (.iload_n 0, 1) := by decide +kernel
theorem dd_PR_checkIndex_1 : decode bb_PR_checkIndex 1 = .ok (.ifCond .lt 8, 3) := by decide +kernel
theorem dd_PR_checkIndex_4 : decode bb_PR_checkIndex 4 = .ok (.iload_n 0, 1) := by decide +kernel
theorem dd_PR_checkIndex_5 : decode bb_PR_checkIndex 5 = .ok (.iload_n 1, 1) := by decide +kernel
theorem dd_PR_checkIndex_6 : decode bb_PR_checkIndex 6 = .ok (.if_icmp .lt 10, 3) := by decide +kernel
theorem dd_PR_checkIndex_16 : decode bb_PR_checkIndex 16 = .ok (.iload_n 0, 1) := by decide +kernel
theorem dd_PR_checkIndex_17 : decode bb_PR_checkIndex 17 = .ok (.ireturn, 1) := by decide +kernel
def ff_ST_length (x : St) (v0 : Nat) : Option (Int32 × St) := some (Int32.ofNat (strL.getD v0 0) >>> ((0 : Int32) &&& 31), x)
def ff_ST_charAt (x : St) (v0 : Nat) (v1 : Int32) : Option (Int32 × St) := (if ixb v1 (strL.getD v0 0) = true then some ((((strB.getD v0 []).getD (ix v1) 0 &&& 255).toUInt32 % 65536).toInt32, x) else none)
section StrRows
variable {p : Program} {l : Launch} {e : Env} {R : Room} {s : State} {m : MethodId} {args : Array Value} {below : List Frame} {meth : Method} {c : Code} {H : Heap} {locs : List Loc} {cells slots : Nat} {Q : State → Prop}
variable {cc : ByteArray} {pc : Nat} {ls : Array Slot} {rest : List Value} {E : Ev} {A : Nat → Prop} {ad : Nat → Nat} {js : List Nat} {x y : St} {own : String} {nL : Nat} {rt : Option FieldType}
theorem rrN {ty : FieldType} (C0 : Cx E A own cc nL (some ty) p s m args meth c) (hP : Wd E ad js x H) (hS : va_S A s.heap H locs) {v : Int32} (hz : narrow ty (.int v) = .int v) (hdg : decode cc pc = .ok (.ireturn, 1)) : W p l e R s m args below meth c H locs cells slots (MQ below (QX E ad js A (some (.int v)) x) args s cells slots A) (F0 m pc ls [.int v]) := by
  obtain ⟨hx, hb, -, hr, -, -, hlk, -⟩ := C0
  exact W.zret hx hb hr hz (fun t ht _ => ⟨⟨rfl, by rw [ht]; exact hP⟩, hS.F ht⟩) hS.2.2 hdg hlk
/-- a call on a String constant -/
theorem rcVS {y : MethodName} {b : ByteArray} {mL n index i : Nat} {ret : Option FieldType} {rm : Room} {As st0 : List Value} {rv : Option Value} {x' : St} (C0 : Cx E A own cc nL rt p s m args meth c)
    (hM : Met l y (Cond.code y b mL ret :: gtb) rm (va_Pc (.ref (E.2.2.1 i) :: As) (PB E A ad js x)) (QX E ad js A rv x') 0 0 A) (hP : Wd E ad js x H) (hS : va_S A s.heap H locs) (hi : i < 7)
    (hwc : Cond.code y b mL ret ∈ gtb) (hwl : Cond.methodLink own index y ∈ gtb) (hwi : Cond.instanceMethod y ∈ gtb) (hws : Cond.selects "java/lang/String" y y ∈ gtb) (hwn : Cond.initialized y.cls ∈ gtb) (hrc : rm.cells = 0) (hrs : rm.slots = 0) (hd : y.cls ≠ "java/lang/invoke/MethodHandle" ∧ y.cls ≠ "java/lang/invoke/VarHandle" ∧ (parseMethodDescriptor y.desc).map (fun d => d.parameters.length) = some n) (hn : As.length = n)
    (hR : rm.frames + 1 ≤ R.frames ∧ 8 + (mL + 11) + rm.locals ≤ R.locals) (hls : ls.size = nL) (hst : st0 = As.reverse ++ .ref (E.2.2.1 i) :: rest) (hroom : (rest.map fun v => v.category).sum ≤ 8) (hdg : decode cc pc = .ok (.invokevirtual index, 3)) (hf : cells ≤ R.cells ∧ slots ≤ R.slots)
    (kk : ∀ H1 locs1, Wd E ad js x' H1 → va_S A s.heap H1 locs1 → W p l e R s m args below meth c H1 locs1 cells slots Q (F0 m (pc + 3) ls (rv.toList ++ rest))) : W p l e R s m args below meth c H locs cells slots Q (F0 m pc ls st0) := by
  obtain ⟨hx, hb, hml, -, hown, hts, -, hK⟩ := id C0
  exact rc0 (rest := rest) (va_runV (As := As) (C := "java/lang/String") (n := n) (bytes := b) (maxL := mL) (ret := ret) ⟨hx, hb, hml, hown, hts⟩ hM ⟨callB_of n hts (good_call hwc) rfl hrc hrs (hts _ hwn) (hts _ hwl) hd hR, hts _ hwi, hts _ hws⟩ ⟨PB.blind, vk_recv hK.2.2.1 hi hS, fun U hU hW => ⟨rfl, by rw [hU]; exact hP, hK.to hS hU hW⟩⟩ rfl hn hls hst (lv_room hroom) hdg hf) hS (fun H1 locs1 a _ _ b => kk H1 locs1 a b)
end StrRows
theorem cc_PR_checkIndex {l : Launch} {E : Ev} {A : Nat → Prop} {ad : Nat → Nat} {js : List Nat} {x : St} {a b : Int32} {w : Option Nat} (h1 : ¬ a < 0) (h2 : a < b) : Met l yy_PR_checkIndex (Cond.code yy_PR_checkIndex bb_PR_checkIndex 3 (some .int) :: gtb) rm_PR_checkIndex (va_Pc [.int a, .int b, va_rf w] (PB E A ad js x)) (QX E ad js A (some (.int a)) x) 0 0 A := by
  cases w <;> exact enter (by decide) (Nat.le_of_ble_eq_true rfl) (fun p e s m below meth c ls C0 hP hS hl => by
    obtain ⟨hx, hb, -⟩ := id C0
    refine lv_iload_n hx hb dd_PR_checkIndex_0 rfl (lv_at hl 0 rfl) ?_
    refine lv_if_lt (tgt := 9) hx hb dd_PR_checkIndex_1 (by decide) (fun h => absurd h h1) (fun _ => ?_)
    refine lv_iload_n hx hb dd_PR_checkIndex_4 rfl (lv_at hl 0 rfl) ?_
    refine lv_iload_n hx hb dd_PR_checkIndex_5 rfl (lv_at hl 1 rfl) ?_
    refine lv_icmp_lt (tgt := 16) hx hb dd_PR_checkIndex_6 (by decide) (fun _ => ?_) (fun h => absurd h2 h)
    refine lv_iload_n hx hb dd_PR_checkIndex_16 rfl (lv_at hl 0 rfl) ?_
    exact rrI C0 hP hS dd_PR_checkIndex_17 rfl)
theorem cc_ST_checkIndex {l : Launch} {E : Ev} {A : Nat → Prop} {ad : Nat → Nat} {js : List Nat} {x : St} {a b : Int32} (h1 : ¬ a < 0) (h2 : a < b) : Met l yy_ST_checkIndex (Cond.code yy_ST_checkIndex bb_ST_checkIndex 2 none :: gtb) rm_ST_checkIndex (va_Pc [.int a, .int b] (PB E A ad js x)) (QX E ad js A none x) 0 0 A := by
  exact enter (by decide) (Nat.le_of_ble_eq_true rfl) (fun p e s m below meth c ls C0 hP hS hl => by
    obtain ⟨hx, hb, hml, hr, hown, hts, hlk, hK⟩ := id C0
    refine lv_iload_n hx hb dd_ST_checkIndex_0 rfl (lv_at hl 0 rfl) ?_
    refine lv_iload_n hx hb dd_ST_checkIndex_1 rfl (lv_at hl 1 rfl) ?_
    have key : ∀ w : Option Nat, W p l e rm_ST_checkIndex s m ([Value.int a, .int b] : List Value).toArray below meth c s.heap [] 0 0 (MQ below (QX E ad js A none x) ([Value.int a, .int b] : List Value).toArray s 0 0 A) (F0 m 5 ls [va_rf w, .int b, .int a]) := by
      intro w
      refine rcS (n := 3) (As := [.int a, .int b, va_rf w]) (rest := []) C0 (cc_PR_checkIndex h1 h2) hP hS gw_code_PR_checkIndex gw_m_ST_1059 gw_static_PR_checkIndex gw_ini_PR rfl rfl (by decide +kernel) rfl ⟨Nat.le_of_ble_eq_true rfl, Nat.le_of_ble_eq_true rfl⟩ hl.1 rfl (Nat.le_of_ble_eq_true rfl) dd_ST_checkIndex_5 ⟨Nat.le_refl _, Nat.le_refl _⟩ (fun H locs hP _ _ hS => ?_)
      refine lv_pop hx hb dd_ST_checkIndex_8 rfl ?_
      exact rrV C0 hP hS dd_ST_checkIndex_9 (v := ()) (r := ()) rfl
    rcases hK.2.2.2.2.2 with hZ | ⟨t, hZ⟩
    · refine va_gets hx hb hZ hS hown (hts _ gw_f_ST_1053) (fun _ h => h) dd_ST_checkIndex_2 ?_
      exact key none
    · refine va_gets hx hb hZ hS hown (hts _ gw_f_ST_1053) (fun _ h => h) dd_ST_checkIndex_2 ?_
      exact key (some t))
theorem cc_SL_charAt {l : Launch} {E : Ev} {A : Nat → Prop} {ad : Nat → Nat} {js : List Nat} {x : St} {i : Nat} {k : Int32} (hi : i < 7) (hk : ixb k (strL.getD i 0) = true) : Met l yy_SL_charAt (Cond.code yy_SL_charAt bb_SL_charAt 2 (some .char) :: gtb) rm_SL_charAt (va_Pc [.ref (E.2.2.2 i), .int k] (PB E A ad js x)) (QX E ad js A (some (.int (((strB.getD i []).getD (ix k) 0 &&& 255).toUInt32 % 65536).toInt32)) x) 0 0 A := by
  exact enter (by decide) (Nat.le_of_ble_eq_true rfl) (fun p e s m below meth c ls C0 hP hS hl => by
    obtain ⟨hx, hb, hml, hr, hown, hts, hlk, hK⟩ := id C0
    have hT := (hK.2.2.1.1 i hi).2.2.2
    have hin := ixb_in hk
    have hN : strL.getD i 0 < 2 ^ 31 := (by decide +kernel : ∀ i, i < 7 → strL.getD i 0 < 2 ^ 31) i hi
    refine lv_iload_n hx hb dd_SL_charAt_0 rfl (lv_at hl 1 rfl) ?_
    refine lv_aload_n hx hb dd_SL_charAt_1 rfl (lv_at hl 0 rfl) ?_
    refine va_tlen hx hb hT hS (v := Int32.ofNat (strL.getD i 0)) rfl dd_SL_charAt_2 ?_
    have h1 : ¬ k < 0 := fun h => hin (Or.inl h)
    have h2 : k < Int32.ofNat (strL.getD i 0) := by
      have h3 := ix_lt hk
      obtain ⟨j, hj, rfl⟩ := nI_of h1
      rw [show ix (nI j) = j from nI_clamp hj] at h3
      exact nI_lt h3 hN
    refine rcS (n := 2) (As := [.int k, .int (Int32.ofNat (strL.getD i 0))]) (rest := []) C0 (cc_ST_checkIndex h1 h2) hP hS gw_code_ST_checkIndex gw_m_SL_9 gw_static_ST_checkIndex gw_ini_ST rfl rfl (by decide +kernel) rfl ⟨Nat.le_of_ble_eq_true rfl, Nat.le_of_ble_eq_true rfl⟩ hl.1 rfl (Nat.le_of_ble_eq_true rfl) dd_SL_charAt_3 ⟨Nat.le_refl _, Nat.le_refl _⟩ (fun H locs hP _ _ hS => ?_)
    refine lv_aload_n hx hb dd_SL_charAt_6 rfl (lv_at hl 0 rfl) ?_
    refine lv_iload_n hx hb dd_SL_charAt_7 rfl (lv_at hl 1 rfl) ?_
    refine va_tb hx hb hT hS hin rfl dd_SL_charAt_8 ?_
    refine lv_sipush (v := 255) hx hb dd_SL_charAt_9 (by decide) ?_
    refine lv_iand hx hb dd_SL_charAt_12 ?_
    refine lv_i2c hx hb dd_SL_charAt_13 rfl ?_
    exact rrN C0 hP hS (pk_nc _) dd_SL_charAt_14)
theorem cc_ST_coder {l : Launch} {E : Ev} {A : Nat → Prop} {ad : Nat → Nat} {js : List Nat} {x : St} {i : Nat} (hi : i < 7) : Met l yy_ST_coder (Cond.code yy_ST_coder bb_ST_coder 1 (some .byte) :: gtb) rm_ST_coder (va_Pc [.ref (E.2.2.1 i)] (PB E A ad js x)) (QX E ad js A (some (.int 0)) x) 0 0 A := by
  exact enter (by decide) (Nat.le_of_ble_eq_true rfl) (fun p e s m below meth c ls C0 hP hS hl => by
    obtain ⟨hx, hb, hml, hr, hown, hts, hlk, hK⟩ := id C0
    refine va_gets hx hb hK.2.2.2.2.1 hS hown (hts _ gw_f_ST_38) (fun _ h => h) dd_ST_coder_0 ?_
    refine lv_if_eq (tgt := 13) hx hb dd_ST_coder_3 (by decide) (fun h => absurd h (by decide)) (fun _ => ?_)
    refine lv_aload_n hx hb dd_ST_coder_6 rfl (lv_at hl 0 rfl) ?_
    refine vk_getf hx hb (hK.2.2.1.1 i hi).2.1 hS hown (hts _ gw_f_ST_15) (fun _ h => h) dd_ST_coder_7 ?_
    refine lv_goto (tgt := 14) hx hb dd_ST_coder_10 (by decide) ?_
    exact rrN C0 hP hS rfl dd_ST_coder_14)
theorem cc_ST_isLatin1 {l : Launch} {E : Ev} {A : Nat → Prop} {ad : Nat → Nat} {js : List Nat} {x : St} {i : Nat} (hi : i < 7) : Met l yy_ST_isLatin1 (Cond.code yy_ST_isLatin1 bb_ST_isLatin1 1 (some .boolean) :: gtb) rm_ST_isLatin1 (va_Pc [.ref (E.2.2.1 i)] (PB E A ad js x)) (QX E ad js A (some (.int 1)) x) 0 0 A := by
  exact enter (by decide) (Nat.le_of_ble_eq_true rfl) (fun p e s m below meth c ls C0 hP hS hl => by
    obtain ⟨hx, hb, hml, hr, hown, hts, hlk, hK⟩ := id C0
    refine va_gets hx hb hK.2.2.2.2.1 hS hown (hts _ gw_f_ST_38) (fun _ h => h) dd_ST_isLatin1_0 ?_
    refine lv_if_eq (tgt := 17) hx hb dd_ST_isLatin1_3 (by decide) (fun h => absurd h (by decide)) (fun _ => ?_)
    refine lv_aload_n hx hb dd_ST_isLatin1_6 rfl (lv_at hl 0 rfl) ?_
    refine vk_getf hx hb (hK.2.2.1.1 i hi).2.1 hS hown (hts _ gw_f_ST_15) (fun _ h => h) dd_ST_isLatin1_7 ?_
    refine lv_if_ne (tgt := 17) hx hb dd_ST_isLatin1_10 (by decide) (fun h => absurd rfl h) (fun _ => ?_)
    refine lv_iconst (v := 1) hx hb dd_ST_isLatin1_13 (by decide) ?_
    refine lv_goto (tgt := 18) hx hb dd_ST_isLatin1_14 (by decide) ?_
    exact rrN C0 hP hS rfl dd_ST_isLatin1_18)
theorem cc_ST_length {l : Launch} {E : Ev} {A : Nat → Prop} {ad : Nat → Nat} (hap : Ap ad ixC A) {x x' : St} {v0 : Nat} {r : Int32} (ho_v0 : v0 < 7) (hf : ff_ST_length x v0 = some (r, x')) : Met l yy_ST_length (Cond.code yy_ST_length bb_ST_length 1 (some .int) :: gtb) rm_ST_length (va_Pc [.ref (E.2.2.1 v0)] (PB E A ad ixC x)) (QX E ad ixC A (some (.int r)) x') 0 0 A := by
  exact enter (by decide) (Nat.le_of_ble_eq_true rfl) (fun p e s m below meth c ls C0 hP hS hl => by
    obtain ⟨hx, hb, hml, hr, hown, hts, hlk, hK⟩ := id C0
    refine lv_aload_n hx hb dd_ST_length_0 rfl (lv_at hl 0 rfl) ?_
    refine vk_getf hx hb (hK.2.2.1.1 v0 ho_v0).2.2.1 hS hown (hts _ gw_f_ST_9) (fun _ h => h) dd_ST_length_1 ?_
    refine va_tlen hx hb (hK.2.2.1.1 v0 ho_v0).2.2.2 hS (v := Int32.ofNat (strL.getD v0 0)) rfl dd_ST_length_4 ?_
    refine lv_aload_n hx hb dd_ST_length_5 rfl (lv_at hl 0 rfl) ?_
    refine rcVS (n := 0) (As := []) (rest := [.int (Int32.ofNat (strL.getD v0 0))]) C0 (cc_ST_coder ho_v0) hP hS ho_v0 gw_code_ST_coder gw_m_ST_335 gw_inst_ST_coder gw_sel_ST_coder gw_ini_ST rfl rfl (by decide +kernel) rfl ⟨Nat.le_of_ble_eq_true rfl, Nat.le_of_ble_eq_true rfl⟩ hl.1 rfl (Nat.le_of_ble_eq_true rfl) dd_ST_length_6 ⟨Nat.le_refl _, Nat.le_refl _⟩ (fun H locs hP hS => ?_)
    refine lv_ishr hx hb dd_ST_length_9 ?_
    exact rrI C0 hP hS dd_ST_length_10 hf)
theorem cc_ST_charAt {l : Launch} {E : Ev} {A : Nat → Prop} {ad : Nat → Nat} (hap : Ap ad ixC A) {x x' : St} {v0 : Nat} {v1 : Int32} {r : Int32} (ho_v0 : v0 < 7) (hf : ff_ST_charAt x v0 v1 = some (r, x')) : Met l yy_ST_charAt (Cond.code yy_ST_charAt bb_ST_charAt 2 (some .char) :: gtb) rm_ST_charAt (va_Pc [.ref (E.2.2.1 v0), .int v1] (PB E A ad ixC x)) (QX E ad ixC A (some (.int r)) x') 0 0 A := by
  obtain ⟨hk, hf⟩ := of_ifb hf
  obtain ⟨rfl, rfl⟩ := of_ret hf
  exact enter (by decide) (Nat.le_of_ble_eq_true rfl) (fun p e s m below meth c ls C0 hP hS hl => by
    obtain ⟨hx, hb, hml, hr, hown, hts, hlk, hK⟩ := id C0
    refine lv_aload_n hx hb dd_ST_charAt_0 rfl (lv_at hl 0 rfl) ?_
    refine rcVS (n := 0) (As := []) (rest := []) C0 (cc_ST_isLatin1 ho_v0) hP hS ho_v0 gw_code_ST_isLatin1 gw_m_ST_492 gw_inst_ST_isLatin1 gw_sel_ST_isLatin1 gw_ini_ST rfl rfl (by decide +kernel) rfl ⟨Nat.le_of_ble_eq_true rfl, Nat.le_of_ble_eq_true rfl⟩ hl.1 rfl (Nat.le_of_ble_eq_true rfl) dd_ST_charAt_1 ⟨Nat.le_refl _, Nat.le_refl _⟩ (fun H locs hP hS => ?_)
    refine lv_if_eq (tgt := 16) hx hb dd_ST_charAt_4 (by decide) (fun h => absurd h (by decide)) (fun _ => ?_)
    refine lv_aload_n hx hb dd_ST_charAt_7 rfl (lv_at hl 0 rfl) ?_
    refine vk_getf hx hb (hK.2.2.1.1 v0 ho_v0).2.2.1 hS hown (hts _ gw_f_ST_9) (fun _ h => h) dd_ST_charAt_8 ?_
    refine lv_iload_n hx hb dd_ST_charAt_11 rfl (lv_at hl 1 rfl) ?_
    refine rcS (n := 2) (As := [.ref (E.2.2.2 v0), .int v1]) (rest := []) C0 (cc_SL_charAt ho_v0 hk) hP hS gw_code_SL_charAt gw_m_ST_495 gw_static_SL_charAt gw_ini_SL rfl rfl (by decide +kernel) rfl ⟨Nat.le_of_ble_eq_true rfl, Nat.le_of_ble_eq_true rfl⟩ hl.1 rfl (Nat.le_of_ble_eq_true rfl) dd_ST_charAt_12 ⟨Nat.le_refl _, Nat.le_refl _⟩ (fun H locs hP _ _ hS => ?_)
    exact rrN C0 hP hS (pk_nc _) dd_ST_charAt_15)
