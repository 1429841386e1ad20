/-! six rows of a hundred ints, made at once -/
def gdC (c : ClassId) (h i : Nat) : Cell := arrV c 6 (fun j => if j < i then .ref (h + 1 + j) else .null)
def gdR (c : ClassId) : Cell := arrV c 100 (fun _ => .int 0)
/-- the state with the outer row and the first i rows made -/
def gdS (T : State) (c d : ClassId) : Nat → State
  | 0 => T.pushCell (gdC c T.heap.size 0)
  | i + 1 => ((gdS T c d i).pushCell (gdR d)).setCell T.heap.size (gdC c T.heap.size (i + 1))
theorem gdC_set (c : ClassId) (h i : Nat) : (gdC c h i).setSlot i (.ref (h + 1 + i)) = gdC c h (i + 1) := by
  unfold gdC
  rw [arrV_store]
  congr 1
  funext j
  unfold updV
  by_cases z : j = i
  · rw [if_pos z, if_pos (by omega), z]
  · rw [if_neg z]
    show (if j < i then Value.ref (h + 1 + j) else Value.null) = _
    by_cases w : j < i
    · rw [if_pos w, if_pos (by omega)]
    · rw [if_neg w, if_neg (by omega)]
theorem gd_facts (T : State) (c d : ClassId) : ∀ i, (gdS T c d i).heap.size = T.heap.size + 1 + i ∧ (gdS T c d i).heap[T.heap.size]? = some (gdC c T.heap.size i) ∧ (gdS T c d i).vm = T.vm ∧ (gdS T c d i).slotsUsed = T.slotsUsed + 6 + i * 100 ∧ (∀ a, a < T.heap.size → (gdS T c d i).heap[a]? = T.heap[a]?) ∧ ∀ j, j < i → (gdS T c d i).heap[T.heap.size + 1 + j]? = some (gdR d)
  | 0 => by
    refine ⟨by simp [gdS], by simp [gdS], rfl, by simp [gdS, gdC, arrV], fun a ha => State.heap_pushCell_of_lt _ _ ha, fun j hj => by omega⟩
  | i + 1 => by
    obtain ⟨h1, h2, h3, h4, h5, h6⟩ := gd_facts T c d i
    have hlt : T.heap.size < (gdS T c d i).heap.size := by rw [h1]; omega
    have hb : ((gdS T c d i).pushCell (gdR d)).heap[T.heap.size]? = some (gdC c T.heap.size i) := by
      rw [State.heap_pushCell_of_lt (h := hlt)]; exact h2
    refine ⟨?_, State.heap_setCell_self hb, by simp [gdS, h3], ?_, fun a ha => ?_, fun j hj => ?_⟩
    · simp [gdS, State.setCell, h1]; omega
    · simp [gdS, h4, gdR, arrV]; omega
    · show (((gdS T c d i).pushCell (gdR d)).setCell T.heap.size _).heap[a]? = _
      rw [State.heap_setCell_other (Nat.ne_of_gt ha), State.heap_pushCell_of_lt (h := Nat.lt_trans ha hlt)]
      exact h5 a ha
    · show (((gdS T c d i).pushCell (gdR d)).setCell T.heap.size _).heap[T.heap.size + 1 + j]? = _
      rw [State.heap_setCell_other (show T.heap.size ≠ T.heap.size + 1 + j by omega)]
      by_cases z : j < i
      · rw [State.heap_pushCell_of_lt (h := show T.heap.size + 1 + j < (gdS T c d i).heap.size by rw [h1]; omega)]
        exact h6 j z
      · rw [show T.heap.size + 1 + j = (gdS T c d i).heap.size by rw [h1]; omega]
        exact State.heap_pushCell_size _ _
theorem gdS_top (T : State) (f : JFrame) (c d : ClassId) : ∀ i, gdS (T.setTop f) c d i = (gdS T c d i).setTop f
  | 0 => rfl
  | i + 1 => by simp only [gdS, gdS_top T f c d i, State.heap_setTop, State.pushCell_setTop, State.setCell_setTop]
theorem gd_stand {p : Program} {l : Launch} {e : Env} {R : Room} {s : State} {m : MethodId} {args : Array Value} {below : List Frame} {meth : Method} {c0 : Code} {T : State} {locs : List Loc} {cells slots : Nat} (X : Stand p l e R s m args below meth c0 T locs cells slots) (c d : ClassId) : ∀ i, Stand p l e R s m args below meth c0 (gdS T c d i) (locs ++ (List.range i).map fun j => ⟨T.heap.size, j⟩) (cells + 1 + i) (slots + 6 + i * 100)
  | 0 => by
    have h := X.pushed (gdC c T.heap.size 0)
    rw [show (gdC c T.heap.size 0).slots.size = 6 from arrV_size _ _ _] at h
    simpa [gdS] using h
  | i + 1 => by
    have Xi := gd_stand X c d i
    obtain ⟨h1, h2, h3, h4, h5, h6⟩ := gd_facts T c d i
    have hlt : T.heap.size < (gdS T c d i).heap.size := by rw [h1]; omega
    have hb : ((gdS T c d i).pushCell (gdR d)).heap[T.heap.size]? = some (gdC c T.heap.size i) := by
      rw [State.heap_pushCell_of_lt (h := hlt)]; exact h2
    have h := (Xi.pushed (gdR d)).stored hb i (.ref (T.heap.size + 1 + i))
    rw [gdC_set, show (gdR d).slots.size = 100 from arrV_size _ _ _] at h
    rw [show locs ++ (List.range (i + 1)).map (fun j => (⟨T.heap.size, j⟩ : Loc)) = (locs ++ (List.range i).map fun j => (⟨T.heap.size, j⟩ : Loc)) ++ [⟨T.heap.size, i⟩] by simp [List.range_succ, List.append_assoc], show slots + 6 + (i + 1) * 100 = slots + 6 + i * 100 + 100 by omega]
    exact h
section GD
variable {E : CtlPost} {e : Env} {d : Bool} {acts : List Action} {s : State}
theorem gd_new {c comp : ClassId} {k : Class} {ty : FieldType} {n : Nat} {v : Value} (hk : s.vm.classes[c]? = some k) (hkind : k.kind = .array comp ty) (hl : ¬ n > e.platform.arrayLengthLimit) (hh : ¬ n * componentBytes ty > e.platform.maxHeapBytes) (hfit : fits ty v = true) (hdef : v.isDefault = true) {Q : Addr → Pre}
    (h1 : s.heap.size < e.platform.maxCells) (h2 : s.slotsUsed + n ≤ e.platform.maxSlots) (hq : Q s.heap.size d acts (s.pushCell (arrV c n (fun _ => v)))) : wp (Jvm.newArray c n v) Q E e d acts s := by
  rw [← arrV_new] at hq
  have hf : ∀ i w, (Array.replicate n v)[i]? = some w → s.fitsSlot c .none i w = true := by
    intro i w hw
    rw [Array.getElem?_replicate] at hw
    split at hw
    · cases hw; simp [State.fitsSlot, State.slotType?, hk, hkind, hfit]
    · cases hw
  have ha : allocActs (Array.replicate n v) s.heap.size acts = acts := by
    unfold allocActs
    rw [if_pos]
    rw [Array.all_replicate]
    split <;> simp [hdef]
  simp only [Jvm.newArray, Jvm.arrayFits, wp_bind', W.ask, W.ite, hl, if_false, wp_pure', W.theClass, hk, hkind, hh, W.alloc, W.stop, Option.some.injEq, exists_eq_left', Array.size_replicate, ha]
  rw [if_neg (by omega)]
  exact ⟨h1, h2, hf, hq⟩
end GD
theorem gd_make1 {E : CtlPost} {e : Env} {d : Bool} {acts : List Action} {s : State} {c x : ClassId} {k : Class} (hk : s.vm.classes[c]? = some k) (hkind : k.kind = .array x .int) (hl : ¬ 100 > e.platform.arrayLengthLimit) (hh : ¬ 100 * componentBytes .int > e.platform.maxHeapBytes) (h1 : s.heap.size < e.platform.maxCells) (h2 : s.slotsUsed + 100 ≤ e.platform.maxSlots) {Q : Addr → Pre} (hq : Q s.heap.size d acts (s.pushCell (gdR c))) : wp (Op.multianewarray.make c [100]) Q E e d acts s := by
  rw [Op.multianewarray.make]
  have hn : ¬ (100 : Int32) < 0 := by decide
  simp only [wp_bind', W.ite, hn, if_false, wp_pure', W.theClass, hk, hkind, Option.some.injEq, exists_eq_left']
  exact gd_new hk hkind hl hh rfl rfl h1 h2 hq
theorem gd_make2 {E : CtlPost} {e : Env} {d : Bool} {acts : List Action} {s : State} {c c' x : ClassId} {k k' : Class} (hk : s.vm.classes[c]? = some k) (hkind : k.kind = .array c' (.array .int)) (hk' : s.vm.classes[c']? = some k') (hkind' : k'.kind = .array x .int) (hl : ¬ 100 > e.platform.arrayLengthLimit) (hh : ¬ 100 * componentBytes .int > e.platform.maxHeapBytes) (hh2 : ¬ 6 * componentBytes (.array .int) > e.platform.maxHeapBytes) (h1 : s.heap.size + 7 ≤ e.platform.maxCells) (h2 : s.slotsUsed + 606 ≤ e.platform.maxSlots) {Q : Addr → Pre} (hq : ∀ d' acts', Q s.heap.size d' acts' (gdS s c c' 6)) : wp (Op.multianewarray.make c [6, 100]) Q E e d acts s := by
  rw [Op.multianewarray.make]
  have hn : ¬ (6 : Int32) < 0 := by decide
  have hz : (6 : Int32).toNatClampNeg = 6 := by decide
  have he : ((6 : Int32) == 0) = false := by decide
  simp only [wp_bind', W.ite, hn, if_false, wp_pure', W.theClass, hk, hkind, Option.some.injEq, exists_eq_left', hz, he]
  refine gd_new hk hkind (by omega) hh2 rfl rfl (by omega) (by omega) ?_
  rw [if_neg (by decide), wp_bind', Std.Legacy.Range.forIn_eq_forIn_range']
  refine wp_forIn_inv (fun r s' => ∃ i, r = List.range' i (6 - i) ∧ i ≤ 6 ∧ s' = gdS s c c' i) _ _ ⟨0, rfl, by omega, ?_⟩ ?_ ?_
  · show _ = s.pushCell (gdC c s.heap.size 0)
    unfold gdC
    simp
  · rintro j r s' d' acts' Q' ⟨i, hr, hi, rfl⟩ hn
    have hlt : i < 6 := by
      rcases Nat.lt_or_ge i 6 with z | z
      · exact z
      · rw [show 6 - i = 0 by omega] at hr
        cases hr
    rw [show 6 - i = (6 - (i + 1)) + 1 by omega, List.range'_succ] at hr
    obtain ⟨rfl, hr⟩ := List.cons.inj hr
    obtain ⟨f1, f2, f3, f4, f5, f6⟩ := gd_facts s c c' j
    have hlt0 : s.heap.size < (gdS s c c' j).heap.size := by rw [f1]; omega
    simp only [wp_bind']
    refine gd_make1 (by rw [f3]; exact hk') hkind' hl hh (by rw [f1]; omega) (by rw [f4]; omega) ?_
    simp only [wp_bind', W.writeLoc, wp_pure']
    refine ⟨gdC c s.heap.size j, by rw [State.heap_pushCell_of_lt (h := hlt0)]; exact f2, by simp [gdC, arrV], by rw [show (gdC c s.heap.size j).slots.size = 6 from arrV_size _ _ _]; exact hlt, ?_, hn _ _ _ ⟨j + 1, hr, hlt, ?_⟩⟩
    · show State.fitsSlot _ c .none j _ = true
      simp [State.fitsSlot, State.slotType?, f3, hk, hkind]
      rfl
    · rw [f1, gdC_set]
      rfl
  · rintro s' d' acts' ⟨i, hr, hi, rfl⟩
    have : i = 6 := by
      rcases Nat.lt_or_ge i 6 with z | z
      · rw [show 6 - i = (6 - (i + 1)) + 1 by omega, List.range'_succ] at hr
        cases hr
      · omega
    subst this
    simp only [wp_pure']
    exact hq _ _
