/-! six rows of a hundred ints, made at once -/
def gdC (c : ClassId) (h i : Nat) : Cell := arrV c 6 (fun j => if j < i then .ref (h + 1 + j) else .null)
def gdR (c : ClassId) : Cell := arrV c 100 (fun _ => .int 0)
/-- one row more, and its place in the outer row -/
def gd1 (c d : ClassId) (h i : Nat) (T : State) : State := (T.pushCell (gdR d)).setCell h (gdC c h (i + 1))
def gdN (c d : ClassId) (h : Nat) : Nat → Nat → State → State
  | 0, _, T => T
  | n + 1, i, T => gdN c d h n (i + 1) (gd1 c d h i T)
theorem gdC_set (c : ClassId) (h i : Nat) : (gdC c h i).setSlot i (.ref (h + 1 + i)) = gdC c h (i + 1) := by
  have e : updV (fun j => if j < i then Value.ref (h + 1 + j) else Value.null) i (.ref (h + 1 + i)) = fun j => if j < i + 1 then Value.ref (h + 1 + j) else Value.null := by
    funext j
    show (if j = i then Value.ref (h + 1 + i) else if j < i then Value.ref (h + 1 + j) else Value.null) = _
    rcases Nat.lt_trichotomy j i with z | z | z
    · rw [if_neg (by omega), if_pos z, if_pos (by omega)]
    · rw [if_pos z, if_pos (by omega), z]
    · rw [if_neg (by omega), if_neg (by omega), if_neg (by omega)]
  unfold gdC
  rw [arrV_store, e]
theorem gdC_size (c : ClassId) (h i : Nat) : (gdC c h i).slots.size = 6 := arrV_size _ _ _
theorem gdR_size (d : ClassId) : (gdR d).slots.size = 100 := arrV_size _ _ _
/-- what T is, of the state S that was ahead, with the outer row and i rows -/
def GZ (S T : State) (c d : ClassId) (i : Nat) : Prop := T.heap.size = S.heap.size + 1 + i ∧ T.heap[S.heap.size]? = some (gdC c S.heap.size i) ∧ T.vm = S.vm ∧ T.slotsUsed = S.slotsUsed + 6 + 100 * i ∧ (∀ a, a < S.heap.size → T.heap[a]? = S.heap[a]?) ∧ ∀ j, j < i → T.heap[S.heap.size + 1 + j]? = some (gdR d)
theorem GZ_0 (S : State) (c d : ClassId) : GZ S (S.pushCell (gdC c S.heap.size 0)) c d 0 :=
  ⟨by simp, by simp, rfl, by simp [gdC_size], fun a ha => State.heap_pushCell_of_lt _ _ ha, fun j hj => absurd hj (Nat.not_lt_zero _)⟩
theorem GZ_old {S T : State} {c d : ClassId} {i : Nat} (h : GZ S T c d i) : (T.pushCell (gdR d)).heap[S.heap.size]? = some (gdC c S.heap.size i) := by
  have hlt : S.heap.size < T.heap.size := by rw [h.1]; omega
  rw [State.heap_pushCell_of_lt (h := hlt)]
  exact h.2.1
theorem GZ_1 {S T : State} {c d : ClassId} {i : Nat} (h : GZ S T c d i) : GZ S (gd1 c d S.heap.size i T) c d (i + 1) := by
  have hb := GZ_old h
  obtain ⟨h1, h2, h3, h4, h5, h6⟩ := h
  have other : ∀ a, a ≠ S.heap.size → a < T.heap.size → (gd1 c d S.heap.size i T).heap[a]? = T.heap[a]? := fun a h7 h8 => by
    unfold gd1
    rw [State.heap_setCell_other (Ne.symm h7), State.heap_pushCell_of_lt (h := h8)]
  refine ⟨?_, State.heap_setCell_self hb, h3, ?_, fun a ha => ?_, fun j hj => ?_⟩
  · simp [gd1, State.setCell, h1]; omega
  · simp [gd1, h4, gdR_size]; omega
  · rw [other a (by omega) (by rw [h1]; omega), h5 a ha]
  · rcases Nat.lt_or_ge j i with z | z
    · rw [other _ (by omega) (by rw [h1]; omega), h6 j z]
    · have e : S.heap.size + 1 + j = T.heap.size := by rw [h1]; omega
      rw [e]
      unfold gd1
      rw [State.heap_setCell_other (show S.heap.size ≠ T.heap.size by rw [h1]; omega)]
      exact State.heap_pushCell_size _ _
theorem GZ_N {S : State} {c d : ClassId} : ∀ (n i : Nat) (T : State), GZ S T c d i → GZ S (gdN c d S.heap.size n i T) c d (i + n)
  | 0, _, _, h => h
  | n + 1, i, T, h => by
    have := GZ_N n (i + 1) _ (GZ_1 h)
    rw [show i + 1 + n = i + (n + 1) by omega] at this
    exact this
theorem gdN_top {c d : ClassId} {h : Nat} {f : JFrame} : ∀ (n i : Nat) (T : State), gdN c d h n i (T.setTop f) = (gdN c d h n i T).setTop f
  | 0, _, _ => rfl
  | n + 1, i, T => by
    have e : gd1 c d h i (T.setTop f) = (gd1 c d h i T).setTop f := by
      unfold gd1
      rw [State.pushCell_setTop, State.setCell_setTop]
    show gdN c d h n (i + 1) (gd1 c d h i (T.setTop f)) = _
    rw [e, gdN_top n (i + 1) _]
    rfl
theorem gdN_stand {p : Program} {l : Launch} {e : Env} {R : Room} {s : State} {m : MethodId} {args : Array Value} {below : List Frame} {meth : Method} {k : Code} {S : State} {c d : ClassId} : ∀ (n i : Nat) (T : State) (locs : List Loc) (cells slots : Nat), GZ S T c d i → Stand p l e R s m args below meth k T locs cells slots → ∃ locs', Stand p l e R s m args below meth k (gdN c d S.heap.size n i T) locs' (cells + n) (slots + 100 * n) ∧ ∀ q ∈ locs', q ∈ locs ∨ q.base = S.heap.size
  | 0, _, _, locs, _, _, _, X => ⟨locs, X, fun _ hq => Or.inl hq⟩
  | n + 1, i, T, locs, cells, slots, h, X => by
    have X1 := (X.pushed (gdR d)).stored (GZ_old h) i (.ref (S.heap.size + 1 + i))
    rw [gdC_set, gdR_size] at X1
    obtain ⟨locs', a1, a2⟩ := gdN_stand n (i + 1) _ _ _ _ (GZ_1 h) X1
    refine ⟨locs', ?_, fun q hq => ?_⟩
    · rw [show cells + (n + 1) = cells + 1 + n by omega, show slots + 100 * (n + 1) = slots + 100 + 100 * n by omega]
      exact a1
    · rcases a2 q hq with z | z
      · rcases List.mem_append.mp z with z | z
        · exact Or.inl z
        · rw [List.mem_singleton.mp z]; exact Or.inr rfl
      · exact Or.inr z
section GD
variable {E : CtlPost} {e : Env}
/-- a row -/
theorem gd_row1 {d : Bool} {acts : List Action} {s : State} {c x : ClassId} {k : Class} (hk : s.vm.classes[c]? = some k) (hkind : k.kind = .array x .int) (hl : ¬ 100 > e.platform.arrayLengthLimit) (hh : ¬ 100 * componentBytes .int > e.platform.maxHeapBytes) (h1 : s.heap.size < e.platform.maxCells) (h2 : s.slotsUsed + 100 ≤ e.platform.maxSlots) {Q : Addr → Pre} (hq : ∀ acts', Q s.heap.size d acts' (s.pushCell (gdR c))) : wp (Op.multianewarray.make c [100]) Q E e d acts s := by
  have e0 : (s.pushCell { cls := c, slots := Array.replicate 100 (.int 0) }) = s.pushCell (gdR c) := congrArg s.pushCell (arrV_new c 100 (.int 0))
  unfold Op.multianewarray.make
  simp only [wp_bind', W.ite, show ¬ (100 : Int32) < 0 by decide, if_false, wp_pure', W.theClass, hk, hkind, Option.some.injEq, exists_eq_left']
  exact W.newArray_of hk hkind hl hh h1 h2 rfl (fun acts' => by rw [show (s.pushCell { cls := c, slots := Array.replicate (100 : Int32).toNatClampNeg (defaultValue .int) }) = s.pushCell (gdR c) from e0]; exact hq acts')
/-- n rows from i on -/
theorem gd_rows {S : State} {c c' x : ClassId} {k k' : Class} (hk : S.vm.classes[c]? = some k) (hkind : k.kind = .array c' (.array .int)) (hk' : S.vm.classes[c']? = some k') (hkind' : k'.kind = .array x .int) (hl : ¬ 100 > e.platform.arrayLengthLimit) (hh : ¬ 100 * componentBytes .int > e.platform.maxHeapBytes) (h1 : S.heap.size + 7 ≤ e.platform.maxCells) (h2 : S.slotsUsed + 606 ≤ e.platform.maxSlots) {Q : PUnit → Pre} : ∀ (n i : Nat) (d : Bool) (acts : List Action) (T : State), i + n = 6 → GZ S T c c' i → (∀ d' acts', Q PUnit.unit d' acts' (gdN c c' S.heap.size n i T)) →
    wp (forIn (List.range' i n) PUnit.unit (fun i (_ : PUnit) => do
      let a ← Op.multianewarray.make c' [100]
      writeLoc S.heap.size i (Value.ref a)
      Pure.pure (ForInStep.yield PUnit.unit))) Q E e d acts T
  | 0, _, d, acts, T, _, _, hq => by
    rw [List.range'_zero, List.forIn_nil, wp_pure']
    exact hq d acts
  | n + 1, i, d, acts, T, hi, h, hq => by
    have hb := GZ_old h
    obtain ⟨f1, f2, f3, f4, f5, f6⟩ := id h
    rw [List.range'_succ, List.forIn_cons, wp_bind', wp_bind']
    refine gd_row1 (by rw [f3]; exact hk') hkind' hl hh (by rw [f1]; omega) (by rw [f4]; omega) (fun acts' => ?_)
    simp only [wp_bind', W.writeLoc, wp_pure']
    refine ⟨_, hb, by simp [gdC, arrV], by rw [gdC_size]; omega, ?_, ?_⟩
    · show State.fitsSlot _ c .none i _ = true
      simp [State.fitsSlot, State.slotType?, f3, hk, hkind]
      rfl
    · rw [f1, gdC_set]
      exact gd_rows hk hkind hk' hkind' hl hh h1 h2 n (i + 1) _ _ _ (by omega) (GZ_1 h) hq
theorem gd_all {d : Bool} {acts : List Action} {S : State} {c c' x : ClassId} {k k' : Class} (hk : S.vm.classes[c]? = some k) (hkind : k.kind = .array c' (.array .int)) (hk' : S.vm.classes[c']? = some k') (hkind' : k'.kind = .array x .int) (hl : ¬ 100 > e.platform.arrayLengthLimit) (hh : ¬ 100 * componentBytes .int > e.platform.maxHeapBytes) (hh2 : ¬ 6 * componentBytes (.array .int) > e.platform.maxHeapBytes) (h1 : S.heap.size + 7 ≤ e.platform.maxCells) (h2 : S.slotsUsed + 606 ≤ e.platform.maxSlots) {Q : Addr → Pre} (hq : ∀ d' acts', Q S.heap.size d' acts' (gdN c c' S.heap.size 6 0 (S.pushCell (gdC c S.heap.size 0)))) : wp (Op.multianewarray.make c [6, 100]) Q E e d acts S := by
  have e0 : (S.pushCell { cls := c, slots := Array.replicate 6 .null }) = S.pushCell (gdC c S.heap.size 0) := congrArg S.pushCell ((arrV_new c 6 .null).trans (by unfold gdC; simp))
  unfold Op.multianewarray.make
  simp only [wp_bind', W.ite, show ¬ (6 : Int32) < 0 by decide, if_false, wp_pure', W.theClass, hk, hkind, Option.some.injEq, exists_eq_left', show (6 : Int32).toNatClampNeg = 6 by decide, show ((6 : Int32) == 0) = false by decide]
  refine W.newArray_of hk hkind (by omega) hh2 (by omega) (by omega) rfl (fun acts' => ?_)
  rw [e0, if_neg (by decide), wp_bind', Std.Legacy.Range.forIn_eq_forIn_range']
  refine gd_rows hk hkind hk' hkind' hl hh h1 h2 6 0 d acts' _ rfl (GZ_0 S c c') (fun d2 acts2 => ?_)
  rw [wp_pure']
  exact hq d2 acts2
end GD
