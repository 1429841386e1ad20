set_option maxHeartbeats 4000000 in
set_option maxRecDepth 100000 in
theorem zw_AR_fillI_5 {p : Program} {l : Launch} {e : Env} {s : State} {m : MethodId} {args : Array Value} {below : List Frame} {meth : Method} {c : Code} {E : Ev} {A : Nat → Prop} {ad : Nat → Nat} {js : List Nat} {r : Unit} {x' : St} (C0 : Cx E A RAR bb_AR_fillI 4 (none) p s m args meth c) (hap : Ap ad js A)  : ∀ (n : Nat), ∀ (x : St) (v0 : Nat) (v1 : Int32) (v2 : Int32) (v3 : Int32), (isO js v0 20) → ff_AR_fillI_5 n x v0 v1 v2 v3 = some (r, x') → ∀ (H : Heap) (locs : List Loc) (ls : Array Slot), Wd E ad js x H → va_S A s.heap H locs → lv_has ls 4 [(0, .ref (ad v0)), (1, .int v1), (2, .int v2), (3, .int v3)] → W p l e rm_AR_fillI s m args below meth c H locs 0 0 (MQ below (QX E ad js A (none) x') args s 0 0 A) (F0 m 5 ls []) := by
  obtain ⟨hx, hb, hml, hr, hown, hts, hlk, hK⟩ := id C0
  intro n
  induction n with
  | zero => intro x v0 v1 v2 v3 ho_v0 hf; exact of_no hf
  | succ n ih =>
    intro x v0 v1 v2 v3 ho_v0 hf H locs ls hP hS hl
    have hf : (if v3 ≤ v2 then some ((), x) else (if ixb v2 (ln v0) = true then st (si x v0 (ix v2) v1) (fun x_3 => ff_AR_fillI_5 n x_3 v0 v1 (v2 + 1) v3) else none)) = some (r, x') := hf
    refine lv_iload_n hx hb dd_AR_fillI_5 rfl (lv_at hl 2 rfl) ?_
    refine lv_iload_n hx hb dd_AR_fillI_6 rfl (lv_at hl 3 rfl) ?_
    refine lv_icmp_ge (tgt := 20) hx hb dd_AR_fillI_7 (by decide) (fun h_1 => ?_) (fun h_1 => ?_)
    · have hf := (if_pos h_1).symm.trans hf
      exact rrV C0 hP hS dd_AR_fillI_20 hf
    · have hf := (if_neg h_1).symm.trans hf
      refine lv_aload_n hx hb dd_AR_fillI_10 rfl (lv_at hl 0 rfl) ?_
      refine lv_iload_n hx hb dd_AR_fillI_11 rfl (lv_at hl 2 rfl) ?_
      refine lv_iload_n hx hb dd_AR_fillI_12 rfl (lv_at hl 1 rfl) ?_
      obtain ⟨h_2, hf⟩ := of_ifb hf
      obtain ⟨x_3, hx_3, hf⟩ := of_st hf
      refine sI C0 hap hP hS ho_v0 h_2 hx_3 dd_AR_fillI_13 (fun H locs hP hS => ?_)
      refine lv_iinc (v := v2 + 1) (lv' := [(2, .int (v2 + 1)), (0, .ref (ad v0)), (1, .int v1), (3, .int v3)]) hx hb dd_AR_fillI_14 hl (k := 2) rfl rfl (by decide) rfl (fun ls hl => ?_)
      refine lv_goto (tgt := 5) hx hb dd_AR_fillI_17 (by decide) ?_
      exact ih x_3 v0 v1 (v2 + 1) v3 ho_v0 hf _ _ _ hP hS (lv_sub hl [1, 2, 0, 3] rfl)
set_option maxHeartbeats 4000000 in
set_option maxRecDepth 100000 in
theorem zw_AR_fillI {p : Program} {l : Launch} {e : Env} {s : State} {m : MethodId} {args : Array Value} {below : List Frame} {meth : Method} {c : Code} {E : Ev} {A : Nat → Prop} {ad : Nat → Nat} {js : List Nat} {r : Unit} {x' : St} (C0 : Cx E A RAR bb_AR_fillI 4 (none) p s m args meth c) (hap : Ap ad js A)  {x : St} {v0 : Nat} {v1 : Int32} (ho_v0 : isO js v0 20) (hf : ff_AR_fillI x v0 v1 = some (r, x')) {H : Heap} {locs : List Loc} {ls : Array Slot} (hP : Wd E ad js x H) (hS : va_S A s.heap H locs) (hl : lv_has ls 4 [(0, .ref (ad v0)), (1, .int v1)]) : W p l e rm_AR_fillI s m args below meth c H locs 0 0 (MQ below (QX E ad js A (none) x') args s 0 0 A) (F0 m 0 ls []) := by
  obtain ⟨hx, hb, hml, hr, hown, hts, hlk, hK⟩ := id C0
  have hf : ff_AR_fillI_5 FU x v0 v1 0 (Int32.ofNat (ln v0)) = some (r, x') := hf
  refine lv_iconst (v := 0) hx hb dd_AR_fillI_0 (by decide) ?_
  refine lv_istore_n (lv' := [(2, .int 0), (0, .ref (ad v0)), (1, .int v1)]) hx hb dd_AR_fillI_1 rfl hl (by decide) rfl (fun ls hl => ?_)
  refine lv_aload_n hx hb dd_AR_fillI_2 rfl (lv_at hl 1 rfl) ?_
  refine rlen C0 hP ho_v0 dd_AR_fillI_3 ?_
  refine lv_istore_n (lv' := [(3, .int (Int32.ofNat (ln v0))), (2, .int 0), (0, .ref (ad v0)), (1, .int v1)]) hx hb dd_AR_fillI_4 rfl hl (by decide) rfl (fun ls hl => ?_)
  exact zw_AR_fillI_5 C0 hap  FU x v0 v1 0 (Int32.ofNat (ln v0)) ho_v0 hf _ _ _ hP hS (lv_sub hl [2, 3, 1, 0] rfl)
theorem zc_AR_fillI {l : Launch} {E : Ev} {A : Nat → Prop} {ad : Nat → Nat} {js : List Nat} (hap : Ap ad js A) {x x' : St} {v0 : Nat} {v1 : Int32} {r : Unit} (ho_v0 : isO js v0 20) (hf : ff_AR_fillI x v0 v1 = some (r, x')) : Met l yy_AR_fillI (Cond.code yy_AR_fillI bb_AR_fillI 4 (none) :: gtb) rm_AR_fillI (va_Pc [.ref (ad v0), .int v1] (PB E A ad js x)) (QX E ad js A (none) x') 0 0 A := by
  exact enter (by decide) (Nat.le_of_ble_eq_true rfl) (fun p e s m below meth c ls C0 hP hS hl => zw_AR_fillI C0 hap ho_v0 hf hP hS hl)
/-! a call whose cells are a part of the caller's -/
section Part
variable {p : Program} {l : Launch} {e : Env} {R : Room} {s : State} {m : MethodId} {args : Array Value} {below : List Frame} {meth : Method} {c : Code} {H : Heap} {locs : List Loc} {cells slots : Nat} {Q : State → Prop}
variable {cc : ByteArray} {pc : Nat} {ls : Array Slot} {rest : List Value} {E : Ev} {A B : Nat → Prop} {ad : Nat → Nat} {js : List Nat} {x : St} {own : String} {nL : Nat} {rt : Option FieldType}
theorem rcA {mc ms : Nat} {st0 : List Value} {rv : Option Value} {x' : St} {a : Array Value} (hr : va_Run p l e R s m args below meth c H locs cells slots mc ms (F0 m pc ls st0) rest (QX E ad js B rv x' a) B) (hS : va_S A s.heap H locs) (hB : ∀ q, B q → A q)
    (kk : ∀ H1 locs1, Wd E ad js x' H1 → H.size ≤ H1.size → (∀ q : Nat, q < H.size → ¬ B q → H1[q]? = H[q]?) → va_S A s.heap H1 locs1 → W p l e R s m args below meth c H1 locs1 (cells + mc) (slots + ms) Q (F0 m (pc + 3) ls (rv.toList ++ rest))) : W p l e R s m args below meth c H locs cells slots Q (F0 m pc ls st0) := by
  intro T hT X
  obtain ⟨v, st₀, t, T', L, h0, X', hL, e1, e2, ⟨⟨hv, hp⟩, hz, hk⟩, st⟩ := hr T hT X
  cases hv
  rw [h0] at hz hk
  obtain ⟨t2, a1, b1⟩ := kk T'.heap (locs ++ L) (by rw [e1]; exact hp) (by rw [e1]; exact hz) (fun q h1 h2 => by rw [e1]; exact hk q h1 h2)
    ⟨Nat.le_trans hS.1 (by rw [e1]; exact hz), fun q h1 h2 => by rw [e1, hk q (Nat.lt_of_lt_of_le h1 hS.1) (fun z => h2 (hB q z))]; exact hS.2.1 q h1 h2, fun q hq => by
      rcases List.mem_append.mp hq with h | h
      · exact hS.2.2 q h
      · exact hB _ (hL q h)⟩ T' rfl X'
  exact ⟨t2, st t2 a1, b1⟩
theorem rcS2 {y : MethodName} {b : ByteArray} {mL n index : Nat} {ret : Option FieldType} {rm : Room} {As st0 : List Value} {rv : Option Value} {x' : St} (C0 : Cx E A own cc nL rt p s m args meth c) (hB : ∀ q, B q → A q)
    (hM : Met l y (Cond.code y b mL ret :: gtb) rm (va_Pc As (PB E B ad js x)) (QX E ad js B rv x') 0 0 B) (hP : Wd E ad js x H) (hS : va_S A s.heap H locs)
    (hwc : Cond.code y b mL ret ∈ gtb) (hwl : Cond.methodLink own index y ∈ gtb) (hwi : Cond.static y ∈ gtb) (hwn : Cond.initialized y.cls ∈ gtb) (hrc : rm.cells = 0) (hrs : rm.slots = 0) (hd : y.cls ≠ "java/lang/invoke/MethodHandle" ∧ y.cls ≠ "java/lang/invoke/VarHandle" ∧ (parseMethodDescriptor y.desc).map (fun d => d.parameters.length) = some n) (hn : As.length = n)
    (hR : rm.frames + 1 ≤ R.frames ∧ 8 + (mL + 11) + rm.locals ≤ R.locals) (hls : ls.size = nL) (hst : st0 = As.reverse ++ rest) (hroom : (rest.map fun v => v.category).sum ≤ 8) (hdg : decode cc pc = .ok (.invokestatic index, 3)) (hf : cells ≤ R.cells ∧ slots ≤ R.slots)
    (kk : ∀ H1 locs1, Wd E ad js x' H1 → H.size ≤ H1.size → (∀ q : Nat, q < H.size → ¬ B q → H1[q]? = H[q]?) → va_S A s.heap H1 locs1 → W p l e R s m args below meth c H1 locs1 cells slots Q (F0 m (pc + 3) ls (rv.toList ++ rest))) : W p l e R s m args below meth c H locs cells slots Q (F0 m pc ls st0) := by
  obtain ⟨hx, hb, hml, -, hown, hts, -, hK⟩ := id C0
  exact rcA (rest := rest) (va_runS (As := As) (n := n) (bytes := b) (maxL := mL) (ret := ret) ⟨hx, hb, hml, hown, hts⟩ hM ⟨callB_of n hts (good_call hwc) rfl hrc hrs (hts _ hwn) (hts _ hwl) hd hR, hts _ hwi⟩ ⟨PB.blind, fun U hU hW => ⟨rfl, by rw [hU]; exact hP, (hK.to hS hU hW).narrow hB⟩⟩ rfl hn hls hst (lv_room hroom) hdg hf) hS hB kk
theorem rcV2 {y : MethodName} {b : ByteArray} {mL n index N ci q : Nat} {ret : Option FieldType} {rm : Room} {As st0 : List Value} {rv : Option Value} {x' : St} {C : String} {T : u_T} (C0 : Cx E A own cc nL rt p s m args meth c) (hB : ∀ q, B q → A q)
    (hM : Met l y (Cond.code y b mL ret :: gtb) rm (va_Pc (.ref (ad q) :: As) (PB E B ad js x)) (QX E ad js B rv x') 0 0 B) (hP : Wd E ad js x H) (hS : va_S A s.heap H locs) (ho : isO js q ci) (hc : vcl[ci]? = some (C, T, N)) (hci : ci < 20)
    (hwc : Cond.code y b mL ret ∈ gtb) (hwl : Cond.methodLink own index y ∈ gtb) (hwi : Cond.instanceMethod y ∈ gtb) (hws : Cond.selects C y y ∈ gtb) (hwn : Cond.initialized y.cls ∈ gtb) (hrc : rm.cells = 0) (hrs : rm.slots = 0) (hd : y.cls ≠ "java/lang/invoke/MethodHandle" ∧ y.cls ≠ "java/lang/invoke/VarHandle" ∧ (parseMethodDescriptor y.desc).map (fun d => d.parameters.length) = some n) (hn : As.length = n)
    (hR : rm.frames + 1 ≤ R.frames ∧ 8 + (mL + 11) + rm.locals ≤ R.locals) (hls : ls.size = nL) (hst : st0 = As.reverse ++ .ref (ad q) :: rest) (hroom : (rest.map fun v => v.category).sum ≤ 8) (hdg : decode cc pc = .ok (.invokevirtual index, 3)) (hf : cells ≤ R.cells ∧ slots ≤ R.slots)
    (kk : ∀ H1 locs1, Wd E ad js x' H1 → H.size ≤ H1.size → (∀ q : Nat, q < H.size → ¬ B q → H1[q]? = H[q]?) → va_S A s.heap H1 locs1 → W p l e R s m args below meth c H1 locs1 cells slots Q (F0 m (pc + 3) ls (rv.toList ++ rest))) : W p l e R s m args below meth c H locs cells slots Q (F0 m pc ls st0) := by
  obtain ⟨hx, hb, hml, -, hown, hts, -, hK⟩ := id C0
  obtain ⟨k0, -, h2⟩ := wl_at (cA := E.2.1) (ad := ad) (x := x) ho.1
  rw [ent_o ho.2 hci] at h2
  exact rcA (rest := rest) (va_runV (As := As) (C := C) (n := n) (bytes := b) (maxL := mL) (ret := ret) ⟨hx, hb, hml, hown, hts⟩ hM ⟨callB_of n hts (good_call hwc) rfl hrc hrs (hts _ hwn) (hts _ hwl) hd hR, hts _ hwi, hts _ hws⟩ ⟨PB.blind, va_recv (q := (C, T, N)) hK.1 hP hc h2, fun U hU hW => ⟨rfl, by rw [hU]; exact hP, (hK.to hS hU hW).narrow hB⟩⟩ rfl hn hls hst (lv_room hroom) hdg hf) hS hB kk
/-- the rows of rows, in the world -/
theorem rnG (C0 : Cx E A own cc nL rt p s m args meth c) (hKI : KI E A s) (hA : ∀ q, s.heap.size ≤ q → A q) {ws : va_W} (hP : va_P E.1 vcl ws H) (hD : va_D A ws) (hS : va_S A s.heap H locs) (z : Nat) {index : Nat} (hcl : Cond.classLink own index "[[I" ∈ gtb) (hcells : cells + 7 ≤ R.cells) (hslots : slots + 606 ≤ R.slots) (hdg : decode cc pc = .ok (.multianewarray index 2, 4))
    (kk : ∀ (g : Nat) (H1 : Heap) (locs1 : List Loc), va_P E.1 vcl (ws ++ [(g, .inl (E.2.1 5, 6, .inr (.inr (.inr (.inr (fun i => some (if i < 6 then g + 1 + i else z))))))), (g + 1, .inl (E.2.1 0, 100, .inl (fun _ => 0))), (g + 2, .inl (E.2.1 0, 100, .inl (fun _ => 0))), (g + 3, .inl (E.2.1 0, 100, .inl (fun _ => 0))), (g + 4, .inl (E.2.1 0, 100, .inl (fun _ => 0))), (g + 5, .inl (E.2.1 0, 100, .inl (fun _ => 0))), (g + 6, .inl (E.2.1 0, 100, .inl (fun _ => 0)))]) H1 → va_D A (ws ++ [(g, .inl (E.2.1 5, 6, .inr (.inr (.inr (.inr (fun i => some (if i < 6 then g + 1 + i else z))))))), (g + 1, .inl (E.2.1 0, 100, .inl (fun _ => 0))), (g + 2, .inl (E.2.1 0, 100, .inl (fun _ => 0))), (g + 3, .inl (E.2.1 0, 100, .inl (fun _ => 0))), (g + 4, .inl (E.2.1 0, 100, .inl (fun _ => 0))), (g + 5, .inl (E.2.1 0, 100, .inl (fun _ => 0))), (g + 6, .inl (E.2.1 0, 100, .inl (fun _ => 0)))]) → va_S A s.heap H1 locs1 → W p l e R s m args below meth c H1 locs1 (cells + 7) (slots + 606) Q (F0 m (pc + 4) ls (.ref g :: rest))) : W p l e R s m args below meth c H locs cells slots Q (F0 m pc ls (.int 100 :: .int 6 :: rest)) := by
  obtain ⟨hx, hb, hml, -, hown, hts, -, hK⟩ := id C0
  obtain ⟨-, ⟨kA, hkA, hkindA⟩, -⟩ := hKI
  have hf5 : s.vm.findClass "[[I" = some (E.2.1 5) := (hK.1.2 5 (E.2.1 5, .array .int) rfl).2
  obtain ⟨-, kB, hkB, x0, hkindB⟩ := (hK.1.2 0 (E.2.1 0, .int) rfl).1 0 (fun _ => .int 0)
  refine gd_row hx hb hown (hts _ hcl) hf5 hkA hkindA hkB hkindB hcells hslots hdg (fun H1 locs1 h1 h2 h3 h4 h5 => ?_)
  have hnew : ∀ q : Nat × va_E, q ∈ ([(H.size, .inl (E.2.1 5, 6, .inr (.inr (.inr (.inr (fun i => some (if i < 6 then H.size + 1 + i else z))))))), (H.size + 1, .inl (E.2.1 0, 100, .inl (fun _ => 0))), (H.size + 2, .inl (E.2.1 0, 100, .inl (fun _ => 0))), (H.size + 3, .inl (E.2.1 0, 100, .inl (fun _ => 0))), (H.size + 4, .inl (E.2.1 0, 100, .inl (fun _ => 0))), (H.size + 5, .inl (E.2.1 0, 100, .inl (fun _ => 0))), (H.size + 6, .inl (E.2.1 0, 100, .inl (fun _ => 0)))] : va_W) → va_at E.1 vcl q H1 ∧ H.size ≤ q.1 := by
    intro q hq
    simp only [List.mem_cons, List.not_mem_nil, or_false] at hq
    rcases hq with rfl | rfl | rfl | rfl | rfl | rfl | rfl
    · refine ⟨?_, Nat.le_refl _⟩
      show H1[H.size]? = some (vp_cell _ _)
      rw [h3, vp_cell_q]
      unfold gdC arrV
      congr 3
      funext j
      show (if j.val < 6 then Value.ref (H.size + 1 + j.val) else Value.null) = va_rf (some (if j.val < 6 then H.size + 1 + j.val else z))
      rw [if_pos j.isLt, if_pos j.isLt]
      rfl
    · exact ⟨h4 0 (by decide), by omega⟩
    · exact ⟨h4 1 (by decide), by omega⟩
    · exact ⟨h4 2 (by decide), by omega⟩
    · exact ⟨h4 3 (by decide), by omega⟩
    · exact ⟨h4 4 (by decide), by omega⟩
    · exact ⟨h4 5 (by decide), by omega⟩
  refine kk H.size H1 locs1 (va_P.app (fun k q hq => (hP k q hq).kept (h2 _ (hP k q hq).lt)) (fun k q hq => (hnew q (List.mem_of_getElem? hq)).1)) ?_ ⟨by have := hS.1; omega, fun q a1 a2 => (h2 q (by have := hS.1; omega)).trans (hS.2.1 q a1 a2), fun q hq => ?_⟩
  · rw [D_nd] at hD ⊢
    refine ⟨?_, fun q hq => ?_⟩
    · rw [List.map_append, List.nodup_append]
      refine ⟨hD.1, ?_, fun a ha b hb2 e => ?_⟩
      · simp only [List.map_cons, List.map_nil, List.nodup_cons, List.mem_cons, List.not_mem_nil, or_false, not_or, not_false_eq_true, List.nodup_nil, and_true]
        omega
      · obtain ⟨z1, z2, rfl⟩ := List.mem_map.mp ha
        obtain ⟨z3, z4, rfl⟩ := List.mem_map.mp hb2
        obtain ⟨i1, hi1⟩ := List.getElem?_of_mem z2
        have := (hP i1 z1 hi1).lt
        have := (hnew z3 z4).2
        omega
    · rcases List.mem_append.mp hq with hq | hq
      · exact hD.2 q hq
      · exact hA _ (Nat.le_trans hS.1 (hnew q hq).2)
  · rcases h5 q hq with z1 | z1
    · exact hS.2.2 q z1
    · rw [z1]; exact hA _ hS.1
end Part
/-- one cell of a list has changed -/
theorem P_upd {A : Nat → Prop} {D : va_G} {cl : List vw_C} {w1 w2 : va_W} {b : Nat} {e e' : va_E} {H H1 : Heap} (hP : va_P D cl (w1 ++ (b, e) :: w2) H) (hD : va_D A (w1 ++ (b, e) :: w2)) (hk : ∀ q : Nat, q < H.size → ¬ q = b → H1[q]? = H[q]?) (he : va_at D cl (b, e') H1) : va_P D cl (w1 ++ (b, e') :: w2) H1 ∧ va_D A (w1 ++ (b, e') :: w2) := by
  rw [D_nd] at hD ⊢
  have nd := hD.1
  rw [List.map_append, List.map_cons, List.nodup_append, List.nodup_cons] at nd
  obtain ⟨n1, ⟨n2, n3⟩, n4⟩ := nd
  have keep : ∀ q, q ∈ w1 ∨ q ∈ w2 → va_at D cl q H1 := by
    intro q hq
    have hm : q ∈ w1 ++ (b, e) :: w2 := by
      rcases hq with h | h
      · exact List.mem_append_left _ h
      · exact List.mem_append_right _ (List.mem_cons_of_mem _ h)
    obtain ⟨i, hi⟩ := List.getElem?_of_mem hm
    refine (hP i q hi).kept (hk _ (hP i q hi).lt (fun z => ?_))
    rcases hq with h | h
    · exact n4 q.1 (List.mem_map_of_mem h) b List.mem_cons_self z
    · have h9 : q.1 ∈ w2.map Prod.fst := List.mem_map_of_mem h
      rw [z] at h9
      exact n2 h9
  refine ⟨fun k q hq => ?_, ?_, fun q hq => ?_⟩
  · rcases List.mem_append.mp (List.mem_of_getElem? hq) with h | h
    · exact keep q (Or.inl h)
    · rcases List.mem_cons.mp h with h | h
      · rw [h]; exact he
      · exact keep q (Or.inr h)
  · have := hD.1
    rw [List.map_append, List.map_cons] at this ⊢
    exact this
  · rcases List.mem_append.mp hq with h | h
    · exact hD.2 q (List.mem_append_left _ h)
    · rcases List.mem_cons.mp h with h | h
      · rw [h]; exact hD.2 (b, e) (List.mem_append_right _ List.mem_cons_self)
      · exact hD.2 q (List.mem_append_right _ (List.mem_cons_of_mem _ h))
