/-! the law: both worlds side by side -/
def AC (ad : Nat → Nat) (js : List Nat) : Nat → Prop := fun a => ∃ q ∈ js, ad q = a
def LX (E : Ev) (adC adM : Nat → Nat) (b L : Nat) (xs : Nat → Int32) (p : Program) (s : State) (m : MethodId) (meth : Method) (c : Code) : Prop :=
  Cx E (fun q => s.heap.size ≤ q) RLA code 4 ret p s m #[Value.ref b] meth c ∧ va_X b L xs s s.heap ∧ b < s.heap.size ∧ Ap adC ixC (AC adC ixC) ∧ Ap adM ixM (AC adM ixM) ∧ (∀ a, AC adC ixC a → s.heap.size ≤ a) ∧ (∀ a, AC adM ixM a → s.heap.size ≤ a) ∧ (∀ a, AC adC ixC a → ¬ AC adM ixM a) ∧ L ≤ 2560
theorem Wd_keep {E : Ev} {ad : Nat → Nat} {js : List Nat} {x : St} {H H1 : Heap} {B : Nat → Prop} (h : Wd E ad js x H) (hk : ∀ q : Nat, q < H.size → ¬ B q → H1[q]? = H[q]?) (hd : ∀ q ∈ js, ¬ B (ad q)) : Wd E ad js x H1 := by
  intro k q hq
  obtain ⟨r, hr, rfl⟩ := wl_get hq
  have h1 := h k _ hq
  exact h1.kept (hk _ h1.lt (hd r (List.mem_of_getElem? hr)))
section Law
variable {p : Program} {l : Launch} {e : Env} {s : State} {m : MethodId} {below : List Frame} {meth : Method} {c : Code} {H : Heap} {locs : List Loc} {Q : State → Prop}
variable {pc : Nat} {ls : Array Slot} {rest : List Value} {E : Ev} {adC adM : Nat → Nat} {b L : Nat} {xs : Nat → Int32} {x y : St}
theorem argL (hX : LX E adC adM b L xs p s m meth c) (hS : va_S (fun q => s.heap.size ≤ q) s.heap H locs) {i k : Nat} {n : Int} (hk : i + k < L) (hl : lv_has ls 4 [(0, .ref b), (1, .ref (adC 0)), (2, .ref (adM 100)), (3, .int (nI i))]) (d0 : decode code pc = .ok (.aload_n 0, 1)) (d1 : decode code (pc + 1) = .ok (.iload_n 3, 1)) (d2 : decode code (pc + 2) = .ok (.iconst n, 1)) (hn : Int32.ofInt n = nI k) (d3 : decode code (pc + 3) = .ok (.iadd, 1)) (d4 : decode code (pc + 4) = .ok (.iaload, 1))
    (kk : W p l e room_1 s m #[Value.ref b] below meth c H locs 600000 7302250 Q (F0 m (pc + 5) ls (.int (xs (i + k)) :: rest))) : W p l e room_1 s m #[Value.ref b] below meth c H locs 600000 7302250 Q (F0 m pc ls rest) := by
  obtain ⟨C0, hXX, hbl, -, -, -, -, -, hL⟩ := hX
  obtain ⟨hx, hb, hml, hr, hown, hts, hlk, hK⟩ := C0
  refine lv_aload_n hx hb d0 rfl (lv_at hl 0 rfl) ?_
  refine lv_iload_n hx hb d1 rfl (lv_at hl 3 rfl) ?_
  refine lv_iconst (v := nI k) hx hb d2 hn ?_
  refine lv_iadd hx hb d3 ?_
  rw [nI_add]
  refine va_sld hx hb hXX hbl (Nat.not_le.mpr hbl) hS (ixb_in (ixb_nI hk (by omega))) d4 ?_
  rw [nI_clamp (by omega)]
  exact kk
theorem lcC (hX : LX E adC adM b L xs p s m meth c) {mn : MethodName} {bb : ByteArray} {mL n index : Nat} {rt : Option FieldType} {rm : Room} {As st0 : List Value} {rv : Option Value} {x' : St}
    (hM : Met l mn (Cond.code mn bb mL rt :: gtb) rm (va_Pc (.ref (adC 0) :: As) (PB E (AC adC ixC) adC ixC x)) (QX E adC ixC (AC adC ixC) rv x') 0 0 (AC adC ixC)) (hP : Wd E adC ixC x H) (hP2 : Wd E adM ixM y H) (hS : va_S (fun q => s.heap.size ≤ q) s.heap H locs)
    (hwc : Cond.code mn bb mL rt ∈ gtb) (hwl : Cond.methodLink RLA index mn ∈ gtb) (hwi : Cond.instanceMethod mn ∈ gtb) (hws : Cond.selects RGG mn mn ∈ gtb) (hwn : Cond.initialized mn.cls ∈ gtb) (hrc : rm.cells = 0) (hrs : rm.slots = 0) (hd : mn.cls ≠ "java/lang/invoke/MethodHandle" ∧ mn.cls ≠ "java/lang/invoke/VarHandle" ∧ (parseMethodDescriptor mn.desc).map (fun d => d.parameters.length) = some n) (hn : As.length = n)
    (hR : rm.frames + 1 ≤ 10 ∧ 8 + (mL + 11) + rm.locals ≤ 342) (hls : ls.size = 4) (hst : st0 = As.reverse ++ .ref (adC 0) :: rest) (hroom : (rest.map fun v => v.category).sum ≤ 8) (hdg : decode code pc = .ok (.invokevirtual index, 3))
    (kk : ∀ H1 locs1, Wd E adC ixC x' H1 → Wd E adM ixM y H1 → va_S (fun q => s.heap.size ≤ q) s.heap H1 locs1 → W p l e room_1 s m #[Value.ref b] below meth c H1 locs1 600000 7302250 Q (F0 m (pc + 3) ls (rv.toList ++ rest))) : W p l e room_1 s m #[Value.ref b] below meth c H locs 600000 7302250 Q (F0 m pc ls st0) := by
  obtain ⟨C0, -, -, h1, h2, h3, h4, h5, -⟩ := hX
  refine rcV2 (n := n) C0 h3 hM hP hS (ci := 5) ⟨by decide, rfl⟩ vcl_5 (by decide) hwc hwl hwi hws hwn hrc hrs hd hn hR hls hst hroom hdg ⟨Nat.le_refl _, Nat.le_refl _⟩ (fun H1 locs1 w1 w2 w3 w4 => ?_)
  exact kk H1 locs1 w1 (Wd_keep hP2 w3 (fun q hq z => h5 _ z ⟨q, hq, rfl⟩)) w4
theorem lcM (hX : LX E adC adM b L xs p s m meth c) {mn : MethodName} {bb : ByteArray} {mL n index : Nat} {rt : Option FieldType} {rm : Room} {As st0 : List Value} {rv : Option Value} {y' : St}
    (hM : Met l mn (Cond.code mn bb mL rt :: gtb) rm (va_Pc (.ref (adM 100) :: As) (PB E (AC adM ixM) adM ixM y)) (QX E adM ixM (AC adM ixM) rv y') 0 0 (AC adM ixM)) (hP : Wd E adM ixM y H) (hP2 : Wd E adC ixC x H) (hS : va_S (fun q => s.heap.size ≤ q) s.heap H locs)
    (hwc : Cond.code mn bb mL rt ∈ gtb) (hwl : Cond.methodLink RLA index mn ∈ gtb) (hwi : Cond.instanceMethod mn ∈ gtb) (hws : Cond.selects RMO mn mn ∈ gtb) (hwn : Cond.initialized mn.cls ∈ gtb) (hrc : rm.cells = 0) (hrs : rm.slots = 0) (hd : mn.cls ≠ "java/lang/invoke/MethodHandle" ∧ mn.cls ≠ "java/lang/invoke/VarHandle" ∧ (parseMethodDescriptor mn.desc).map (fun d => d.parameters.length) = some n) (hn : As.length = n)
    (hR : rm.frames + 1 ≤ 10 ∧ 8 + (mL + 11) + rm.locals ≤ 342) (hls : ls.size = 4) (hst : st0 = As.reverse ++ .ref (adM 100) :: rest) (hroom : (rest.map fun v => v.category).sum ≤ 8) (hdg : decode code pc = .ok (.invokevirtual index, 3))
    (kk : ∀ H1 locs1, Wd E adM ixM y' H1 → Wd E adC ixC x H1 → va_S (fun q => s.heap.size ≤ q) s.heap H1 locs1 → W p l e room_1 s m #[Value.ref b] below meth c H1 locs1 600000 7302250 Q (F0 m (pc + 3) ls (rv.toList ++ rest))) : W p l e room_1 s m #[Value.ref b] below meth c H locs 600000 7302250 Q (F0 m pc ls st0) := by
  obtain ⟨C0, -, -, h1, h2, h3, h4, h5, -⟩ := hX
  refine rcV2 (n := n) C0 h4 hM hP hS (ci := 6) ⟨by decide, rfl⟩ vcl_6 (by decide) hwc hwl hwi hws hwn hrc hrs hd hn hR hls hst hroom hdg ⟨Nat.le_refl _, Nat.le_refl _⟩ (fun H1 locs1 w1 w2 w3 w4 => ?_)
  exact kk H1 locs1 w1 (Wd_keep hP2 w3 (fun q hq z => h5 _ ⟨q, hq, rfl⟩ z)) w4
end Law
