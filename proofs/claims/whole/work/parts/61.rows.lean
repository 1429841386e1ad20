section MakeRows
variable {p : Program} {l : Launch} {e : Env} {R : Room} {s : State} {m : MethodId} {args : Array Value} {below : List Frame} {meth : Method} {c : Code} {H : Heap} {locs : List Loc} {cells slots : Nat} {Q : State → Prop}
variable {cc : ByteArray} {pc : Nat} {ls : Array Slot} {rest : List Value} {E : Ev} {A : Nat → Prop} {own : String} {nL : Nat} {rt : Option FieldType} {ws : va_W}
theorem oI (C0 : Cx E A own cc nL rt p s m args meth c) {a idx : Nat} (hl : Cond.methodLink own idx Lib.objectInit ∈ gtb) (hls : ls.size = nL) (hf : 1 ≤ R.frames) (hr : (rest.map fun v => v.category).sum + 12 ≤ R.locals) (hdg : decode cc pc = .ok (.invokespecial idx, 3)) (kk : W p l e R s m args below meth c H locs cells slots Q (F0 m (pc + 3) ls rest)) : W p l e R s m args below meth c H locs cells slots Q (F0 m pc ls (.ref a :: rest)) := by
  obtain ⟨hx, hb, hml, -, hown, hts, -, -⟩ := C0
  refine W.objInit hx hb hown (hts _ hl) (hts _ gw_oin) (hts _ gw_oc) rfl (by rw [hml]; exact hls) rfl hdg hf ?_ ?_
  · show 2 * 0 + _ + 12 ≤ _
    omega
  · exact W.eq (g2 := F0 m (pc + 3) ls rest) rfl kk
theorem rnO (C0 : Cx E A own cc nL rt p s m args meth c) (hA : ∀ q, s.heap.size ≤ q → A q) (hP : va_P E.1 vcl ws H) (hD : va_D A ws) (hS : va_S A s.heap H locs) {C : String} {T : u_T} {N ci index : Nat} {G : Nat → FieldType} {fs : List Value} (hc : vcl[ci]? = some (C, T, N)) (hin : ∀ w ∈ u_ws C T N, w ∈ gtb) (hty : ∀ k, k < N → parseFieldDescriptor (T k).2.2.1 = some (G k)) (hcl : Cond.classLink own index C ∈ gtb) (hi : Cond.instantiable C N ∈ gtb) (hn : Cond.initialized C ∈ gtb) (hfs : ∀ j, j < N → defaultValue (G j) = vp_V fs j) (hcells : cells + 1 ≤ R.cells) (hslots : slots + N ≤ R.slots) (hdg : decode cc pc = .ok (.new index, 3))
    (kk : ∀ (q : Nat) (H1 : Heap), va_P E.1 vcl (ws ++ [(q, .inr (ci, fs))]) H1 → va_D A (ws ++ [(q, .inr (ci, fs))]) → va_S A s.heap H1 locs → W p l e R s m args below meth c H1 locs (cells + 1) (slots + N) Q (F0 m (pc + 3) ls (.ref q :: rest))) : W p l e R s m args below meth c H locs cells slots Q (F0 m pc ls rest) := by
  obtain ⟨hx, hb, -, -, hown, hts, -, hK⟩ := C0
  exact va_new hx hb hts hin G hty hown (hts _ hcl) (hts _ hi) (hts _ hn) hK.1 hP hD hS hA hc hfs hcells hslots hdg kk
theorem rnA (C0 : Cx E A own cc nL rt p s m args meth c) (hA : ∀ q, s.heap.size ≤ q → A q) (hP : va_P E.1 vcl ws H) (hD : va_D A ws) (hS : va_S A s.heap H locs) (atype : ClassFile.ArrayType) {ty : FieldType} (k0 : Nat) (ht : (tyl E.2.1)[k0]? = some (E.2.1 k0, ty)) (hprim : ∀ cA, va_RA s cA ty = (s.vm.findClass ("[" ++ ty.toString) = some cA)) (hty : Op.newarray.typeOf atype = ty) (hac : Cond.arrayClass ty ∈ gtb) {n : Int32} {N : Nat} {a0 : vp_A} (ha : ∀ cA : ClassId, vp_cell cA a0 = arrV cA N (fun _ => defaultValue ty)) (hn : ¬ n < 0) (hN : n.toNatClampNeg = N) (hbytes : N * componentBytes ty ≤ 536870912) (hcells : cells + 1 ≤ R.cells) (hslots : slots + N ≤ R.slots) (hdg : decode cc pc = .ok (.newarray atype, 2))
    (kk : ∀ (q : Nat) (H1 : Heap), va_P E.1 vcl (ws ++ [(q, .inl (E.2.1 k0, a0))]) H1 → va_D A (ws ++ [(q, .inl (E.2.1 k0, a0))]) → va_S A s.heap H1 locs → W p l e R s m args below meth c H1 locs (cells + 1) (slots + N) Q (F0 m (pc + 2) ls (.ref q :: rest))) : W p l e R s m args below meth c H locs cells slots Q (F0 m pc ls (.int n :: rest)) := by
  obtain ⟨hx, hb, -, -, hown, hts, -, hK⟩ := C0
  refine va_newa hx hb (by rw [hty]; exact hts _ hac) hty hK.1 hP hD hS hA ha hn hN hbytes hcells hslots hdg (fun q cA H1 hK1 hP1 hD1 hS1 => ?_)
  have e1 := (hK.1.2 k0 _ ht).2
  have e2 : va_RA s cA ty := (hK1.2 6 (cA, ty) rfl).2
  rw [hprim] at e2
  have e1 : s.vm.findClass ("[" ++ ty.toString) = some (E.2.1 k0) := by rw [← hprim]; exact e1
  cases e1.symm.trans e2
  exact kk q H1 hP1 hD1 hS1
theorem rnI (C0 : Cx E A own cc nL rt p s m args meth c) (hA : ∀ q, s.heap.size ≤ q → A q) (hP : va_P E.1 vcl ws H) (hD : va_D A ws) (hS : va_S A s.heap H locs) {n : Int32} (N : Nat) (hn : ¬ n < 0) (hN : n.toNatClampNeg = N) (hbytes : N ≤ 100000) (hcells : cells + 1 ≤ R.cells) (hslots : slots + N ≤ R.slots) (hdg : decode cc pc = .ok (.newarray .int, 2))
    (kk : ∀ (q : Nat) (H1 : Heap), va_P E.1 vcl (ws ++ [(q, .inl (E.2.1 0, N, .inl (fun _ => 0)))]) H1 → va_D A (ws ++ [(q, .inl (E.2.1 0, N, .inl (fun _ => 0)))]) → va_S A s.heap H1 locs → W p l e R s m args below meth c H1 locs (cells + 1) (slots + N) Q (F0 m (pc + 2) ls (.ref q :: rest))) : W p l e R s m args below meth c H locs cells slots Q (F0 m pc ls (.int n :: rest)) :=
  rnA C0 hA hP hD hS .int (ty := .int) 0 rfl (fun _ => rfl) rfl gw_ac_I (fun _ => rfl) hn hN (by show N * 4 ≤ _; omega) hcells hslots hdg kk
theorem rnJ (C0 : Cx E A own cc nL rt p s m args meth c) (hA : ∀ q, s.heap.size ≤ q → A q) (hP : va_P E.1 vcl ws H) (hD : va_D A ws) (hS : va_S A s.heap H locs) {n : Int32} (N : Nat) (hn : ¬ n < 0) (hN : n.toNatClampNeg = N) (hbytes : N ≤ 100000) (hcells : cells + 1 ≤ R.cells) (hslots : slots + N ≤ R.slots) (hdg : decode cc pc = .ok (.newarray .long, 2))
    (kk : ∀ (q : Nat) (H1 : Heap), va_P E.1 vcl (ws ++ [(q, .inl (E.2.1 3, N, .inr (.inl (fun _ => 0))))]) H1 → va_D A (ws ++ [(q, .inl (E.2.1 3, N, .inr (.inl (fun _ => 0))))]) → va_S A s.heap H1 locs → W p l e R s m args below meth c H1 locs (cells + 1) (slots + N) Q (F0 m (pc + 2) ls (.ref q :: rest))) : W p l e R s m args below meth c H locs cells slots Q (F0 m pc ls (.int n :: rest)) :=
  rnA C0 hA hP hD hS .long (ty := .long) 3 rfl (fun _ => rfl) rfl gw_ac_J (fun _ => rfl) hn hN (by show N * 8 ≤ _; omega) hcells hslots hdg kk
theorem rnZ (C0 : Cx E A own cc nL rt p s m args meth c) (hA : ∀ q, s.heap.size ≤ q → A q) (hP : va_P E.1 vcl ws H) (hD : va_D A ws) (hS : va_S A s.heap H locs) {n : Int32} (N : Nat) (hn : ¬ n < 0) (hN : n.toNatClampNeg = N) (hbytes : N ≤ 100000) (hcells : cells + 1 ≤ R.cells) (hslots : slots + N ≤ R.slots) (hdg : decode cc pc = .ok (.newarray .boolean, 2))
    (kk : ∀ (q : Nat) (H1 : Heap), va_P E.1 vcl (ws ++ [(q, .inl (E.2.1 2, N, .inl (fun _ => 0)))]) H1 → va_D A (ws ++ [(q, .inl (E.2.1 2, N, .inl (fun _ => 0)))]) → va_S A s.heap H1 locs → W p l e R s m args below meth c H1 locs (cells + 1) (slots + N) Q (F0 m (pc + 2) ls (.ref q :: rest))) : W p l e R s m args below meth c H locs cells slots Q (F0 m pc ls (.int n :: rest)) :=
  rnA C0 hA hP hD hS .boolean (ty := .boolean) 2 rfl (fun _ => rfl) rfl gw_ac_Z (fun _ => rfl) hn hN (by show N * 1 ≤ _; omega) hcells hslots hdg kk
theorem rnB (C0 : Cx E A own cc nL rt p s m args meth c) (hA : ∀ q, s.heap.size ≤ q → A q) (hP : va_P E.1 vcl ws H) (hD : va_D A ws) (hS : va_S A s.heap H locs) {n : Int32} (N : Nat) (hn : ¬ n < 0) (hN : n.toNatClampNeg = N) (hbytes : N ≤ 100000) (hcells : cells + 1 ≤ R.cells) (hslots : slots + N ≤ R.slots) (hdg : decode cc pc = .ok (.newarray .byte, 2))
    (kk : ∀ (q : Nat) (H1 : Heap), va_P E.1 vcl (ws ++ [(q, .inl (E.2.1 1, N, .inl (fun _ => 0)))]) H1 → va_D A (ws ++ [(q, .inl (E.2.1 1, N, .inl (fun _ => 0)))]) → va_S A s.heap H1 locs → W p l e R s m args below meth c H1 locs (cells + 1) (slots + N) Q (F0 m (pc + 2) ls (.ref q :: rest))) : W p l e R s m args below meth c H locs cells slots Q (F0 m pc ls (.int n :: rest)) :=
  rnA C0 hA hP hD hS .byte (ty := .byte) 1 rfl (fun _ => rfl) rfl gw_ac_B (fun _ => rfl) hn hN (by show N * 1 ≤ _; omega) hcells hslots hdg kk
/-- a field of the object that stands first -/
theorem rgH (C0 : Cx E A own cc nL rt p s m args meth c) {h0 ci index N : Nat} {fs : List Value} (hP : va_P E.1 vcl ((h0, .inr (ci, fs)) :: ws) H) {C : String} {T : u_T} (hc : vcl[ci]? = some (C, T, N)) (hin : ∀ w ∈ u_ws C T N, w ∈ gtb) (k : Nat) (hk : k < N) (hd : (T k).1 = C) (hl : Cond.fieldLink own index C (T k).2.1 (T k).2.2.1 ∈ gtb) {v : Value} (hv : fs[k]? = some v) (hdg : decode cc pc = .ok (.getfield index, 3))
    (kk : W p l e R s m args below meth c H locs cells slots Q (F0 m (pc + 3) ls (v :: rest))) : W p l e R s m args below meth c H locs cells slots Q (F0 m pc ls (.ref h0 :: rest)) := by
  obtain ⟨hx, hb, -, -, hown, hts, -, hK⟩ := C0
  exact va_get hx hb hts hin hown hK.1 hP 0 rfl hc k hk (hts _ hl) (fun x h => by rw [hd] at h; exact h) hv hdg kk
theorem rpF (C0 : Cx E A own cc nL rt p s m args meth c) (hi : meth.name = "<init>") {h0 ci index N : Nat} {fs : List Value} (hP : va_P E.1 vcl ((h0, .inr (ci, fs)) :: ws) H) (hD : va_D A ((h0, .inr (ci, fs)) :: ws)) (hS : va_S A s.heap H locs) {C : String} {T : u_T} {G : Nat → FieldType} (hc : vcl[ci]? = some (C, T, N)) (hin : ∀ w ∈ u_ws C T N, w ∈ gtb) (hty : ∀ k, k < N → parseFieldDescriptor (T k).2.2.1 = some (G k)) (hnm : ∀ a, a < N → ∀ b, b < N → a ≠ b → (T a).2.1 ≠ (T b).2.1) (k : Nat) (hk : k < N) (hd : (T k).1 = C) (hfin : (T k).2.2.2 = true) (ho : (T k).1 = own) (hl : Cond.fieldLink own index C (T k).2.1 (T k).2.2.1 ∈ gtb) {v : Value} (hn : narrow (G k) v = v) (hf : fits (G k) v = true) (hlen : k < fs.length) {fs' : List Value} (hfs : fs.set k v = fs') (hdg : decode cc pc = .ok (.putfield index, 3))
    (kk : ∀ H1 locs1, va_P E.1 vcl ((h0, .inr (ci, fs')) :: ws) H1 → va_D A ((h0, .inr (ci, fs')) :: ws) → va_S A s.heap H1 locs1 → W p l e R s m args below meth c H1 locs1 cells slots Q (F0 m (pc + 3) ls rest)) : W p l e R s m args below meth c H locs cells slots Q (F0 m pc ls (v :: .ref h0 :: rest)) := by
  obtain ⟨hx, hb, -, -, hown, hts, -, hK⟩ := C0
  subst hfs
  exact va_putF hx hb hts hin G hty hnm hown hK.1 hP hD hS 0 rfl hc k hk (hts _ hl) (fun x h => by rw [hd] at h; exact h) hfin hi ho (hty k hk) hn hf hlen hdg kk
theorem rpV (C0 : Cx E A own cc nL rt p s m args meth c) {h0 ci index N : Nat} {fs : List Value} (hP : va_P E.1 vcl ((h0, .inr (ci, fs)) :: ws) H) (hD : va_D A ((h0, .inr (ci, fs)) :: ws)) (hS : va_S A s.heap H locs) {C : String} {T : u_T} {G : Nat → FieldType} (hc : vcl[ci]? = some (C, T, N)) (hin : ∀ w ∈ u_ws C T N, w ∈ gtb) (hty : ∀ k, k < N → parseFieldDescriptor (T k).2.2.1 = some (G k)) (hnm : ∀ a, a < N → ∀ b, b < N → a ≠ b → (T a).2.1 ≠ (T b).2.1) (k : Nat) (hk : k < N) (hd : (T k).1 = C) (hfin : (T k).2.2.2 = false) (hl : Cond.fieldLink own index C (T k).2.1 (T k).2.2.1 ∈ gtb) {v : Value} (hn : narrow (G k) v = v) (hf : fits (G k) v = true) (hlen : k < fs.length) {fs' : List Value} (hfs : fs.set k v = fs') (hdg : decode cc pc = .ok (.putfield index, 3))
    (kk : ∀ H1 locs1, va_P E.1 vcl ((h0, .inr (ci, fs')) :: ws) H1 → va_D A ((h0, .inr (ci, fs')) :: ws) → va_S A s.heap H1 locs1 → W p l e R s m args below meth c H1 locs1 cells slots Q (F0 m (pc + 3) ls rest)) : W p l e R s m args below meth c H locs cells slots Q (F0 m pc ls (v :: .ref h0 :: rest)) := by
  obtain ⟨hx, hb, -, -, hown, hts, -, hK⟩ := C0
  subst hfs
  exact va_put hx hb hts hin G hty hnm hown hK.1 hP hD hS 0 rfl hc k hk (hts _ hl) (fun x h => by rw [hd] at h; exact h) hfin (hty k hk) hn hf hlen hdg kk
theorem AI_in {h0 ci sz : Nat} {fs : List Value} (hD : va_D A (ws ++ [(h0, .inr (ci, fs))])) (hA : ∀ q, s.heap.size ≤ q → A q) (hz : s.heap.size ≤ sz) : ∀ q, AI h0 ci fs sz q → A q := by
  intro q h
  rcases h with ⟨k, e, h⟩ | h
  · rw [D_nd] at hD
    have := List.mem_of_getElem? h
    rw [List.mem_singleton] at this
    have e1 := hD.2 (h0, .inr (ci, fs)) (by simp)
    cases this
    exact e1
  · exact hA q (Nat.le_trans hz h)
theorem rcI (C0 : Cx E A own cc nL rt p s m args meth c) (hKI : KI E A s) (hA : ∀ q, s.heap.size ≤ q → A q) {y : MethodName} {b : ByteArray} {mL n index mc ms q ci : Nat} {rm : Room} {As st0 : List Value} {fs : List Value} {X : va_W → Prop}
    (hM : Met l y (Cond.code y b mL none :: gtb) rm (va_Pc (.ref q :: As) (PI E q ci fs H.size)) (QI E (AI q ci fs H.size) X) mc ms (AI q ci fs H.size)) (hP : va_P E.1 vcl (ws ++ [(q, .inr (ci, fs))]) H) (hD : va_D A (ws ++ [(q, .inr (ci, fs))])) (hS : va_S A s.heap H locs)
    (hwc : Cond.code y b mL none ∈ gtb) (hwl : Cond.methodLink own index y ∈ gtb) (hwi : Cond.instanceMethod y ∈ gtb) (hwn : Cond.initialized y.cls ∈ gtb) (hy : y.name = "<init>") (hrc : rm.cells = mc) (hrs : rm.slots = ms) (hd : y.cls ≠ "java/lang/invoke/MethodHandle" ∧ y.cls ≠ "java/lang/invoke/VarHandle" ∧ (parseMethodDescriptor y.desc).map (fun d => d.parameters.length) = some n) (hn : As.length = n)
    (hR : rm.frames + 1 ≤ R.frames ∧ 8 + (mL + 11) + rm.locals ≤ R.locals) (hls : ls.size = nL) (hst : st0 = As.reverse ++ .ref q :: rest) (hroom : (rest.map fun v => v.category).sum ≤ 8) (hdg : decode cc pc = .ok (.invokespecial index, 3)) (hf : cells + mc ≤ R.cells ∧ slots + ms ≤ R.slots)
    (kk : ∀ w H1 locs1, X w → va_P E.1 vcl (ws ++ w) H1 → va_D A (ws ++ w) → va_S A s.heap H1 locs1 → W p l e R s m args below meth c H1 locs1 (cells + mc) (slots + ms) Q (F0 m (pc + 3) ls rest)) : W p l e R s m args below meth c H locs cells slots Q (F0 m pc ls st0) := by
  obtain ⟨hx, hb, hml, -, hown, hts, -, hK⟩ := id C0
  have hF := AI_in (sz := H.size) hD hA hS.1
  refine va_callv (va_runI (As := As) (rest := rest) ⟨hx, hb, hml, hown, hts⟩ hM ⟨callB_of n hts (good_call hwc) rfl hrc hrs (hts _ hwn) (hts _ hwl) hd hR, hy, hts _ hwi⟩ ⟨PI.blind, fun U hU hW => ⟨rfl, by rw [hU], by rw [hU]; exact P_mem hP (fun z hz => List.mem_append_right _ hz), (hKI.to hS hU hW).narrow hF⟩⟩ rfl hn hls hst (lv_room hroom) hdg hf) hS (fun q _ h => hF q h) hF (fun w t H1 locs1 ht hvm hX hB hz hk hS1 => ?_)
  obtain ⟨hP1, hD1⟩ := hB
  rw [ht] at hP1
  obtain ⟨hP2, hD2⟩ := jn hP hD hk hF hP1 hD1
  exact kk w H1 locs1 hX hP2 hD2 hS1
theorem rcIN (C0 : Cx E A own cc nL rt p s m args meth c) (hKI : KI E A s) (hA : ∀ q, s.heap.size ≤ q → A q) {y : MethodName} {host : String} {b : ByteArray} {mL n index mc ms q ci : Nat} {rm : Room} {As st0 : List Value} {fs : List Value} {X : va_W → Prop}
    (hM : Met l y (Cond.code y b mL none :: gtb) rm (va_Pc (.ref q :: As) (PI E q ci fs H.size)) (QI E (AI q ci fs H.size) X) mc ms (AI q ci fs H.size)) (hP : va_P E.1 vcl (ws ++ [(q, .inr (ci, fs))]) H) (hD : va_D A (ws ++ [(q, .inr (ci, fs))])) (hS : va_S A s.heap H locs)
    (hwc : Cond.code y b mL none ∈ gtb) (hwl : Cond.methodLinkNest own index y host ∈ nst) (hwi : Cond.instanceMethod y ∈ gtb) (hwn : Cond.initialized y.cls ∈ gtb) (hy : y.name = "<init>") (hrc : rm.cells = mc) (hrs : rm.slots = ms) (hd : y.cls ≠ "java/lang/invoke/MethodHandle" ∧ y.cls ≠ "java/lang/invoke/VarHandle" ∧ (parseMethodDescriptor y.desc).map (fun d => d.parameters.length) = some n) (hn : As.length = n)
    (hR : rm.frames + 1 ≤ R.frames ∧ 8 + (mL + 11) + rm.locals ≤ R.locals) (hls : ls.size = nL) (hst : st0 = As.reverse ++ .ref q :: rest) (hroom : (rest.map fun v => v.category).sum ≤ 8) (hdg : decode cc pc = .ok (.invokespecial index, 3)) (hf : cells + mc ≤ R.cells ∧ slots + ms ≤ R.slots)
    (kk : ∀ w H1 locs1, X w → va_P E.1 vcl (ws ++ w) H1 → va_D A (ws ++ w) → va_S A s.heap H1 locs1 → W p l e R s m args below meth c H1 locs1 (cells + mc) (slots + ms) Q (F0 m (pc + 3) ls rest)) : W p l e R s m args below meth c H locs cells slots Q (F0 m pc ls st0) := by
  obtain ⟨hx, hb, hml, -, hown, hts, -, hK⟩ := id C0
  have hF := AI_in (sz := H.size) hD hA hS.1
  refine va_callv (va_runIN (As := As) (rest := rest) (host := host) ⟨hx, hb, hml, hown, hts⟩ hM ⟨va_cnB n hts (good_call hwc) rfl hrc hrs (hK.2.1 _ hwl) (hts _ hwn) hd hR, hy, hts _ hwi⟩ ⟨PI.blind, fun U hU hW => ⟨rfl, by rw [hU], by rw [hU]; exact P_mem hP (fun z hz => List.mem_append_right _ hz), (hKI.to hS hU hW).narrow hF⟩⟩ rfl hn hls hst (lv_room hroom) hdg hf) hS (fun q _ h => hF q h) hF (fun w t H1 locs1 ht hvm hX hB hz hk hS1 => ?_)
  obtain ⟨hP1, hD1⟩ := hB
  rw [ht] at hP1
  obtain ⟨hP2, hD2⟩ := jn hP hD hk hF hP1 hD1
  exact kk w H1 locs1 hX hP2 hD2 hS1
/-- the end of a constructor -/
theorem rvI (C0 : Cx E A own cc nL none p s m args meth c) {X : va_W → Prop} {w : va_W} (hX : X w) (hP : va_P E.1 vcl w H) (hD : va_D A w) (hS : va_S A s.heap H locs) {mc ms : Nat} (h1 : cells ≤ mc) (h2 : slots ≤ ms) (hdg : decode cc pc = .ok (.return_, 1)) : W p l e R s m args below meth c H locs cells slots (MQ below (QI E A X) args s mc ms A) (F0 m pc ls []) := by
  obtain ⟨hx, hb, -, hr, -, -, hlk, -⟩ := C0
  refine W.widen h1 h2 ?_
  exact W.vret hx hb hr (fun t ht _ => ⟨⟨w, rfl, hX, by rw [ht]; exact hP, hD⟩, hS.F ht⟩) hS.2.2 hdg hlk
end MakeRows
