/-- the instruction: an outer row of six, and six rows -/
theorem gd_row {p : Program} {l : Launch} {e : Env} {R : Room} {s : State} {m : MethodId} {args : Array Value} {below : List Frame} {meth : Method} {c : Code} {H : Heap} {locs : List Loc} {cells slots : Nat} {Q : State → Prop} {cc : ByteArray} {pc : Nat} {ls : Array Slot} {rest : List Value} (hexec : p.tables.exec = Jvm.exec) (hb : c.code = cc) {own : String} {index : Nat} (hown : s.vm.findClass own = some m.cls) (hcl : (Cond.classLink own index "[[I").before args s = true) {cA cB x : ClassId} {kA kB : Class} (hA : s.vm.findClass "[[I" = some cA) (hkA : s.vm.classes[cA]? = some kA) (hkindA : kA.kind = .array cB (.array .int)) (hkB : s.vm.classes[cB]? = some kB) (hkindB : kB.kind = .array x .int) (hcells : cells + 7 ≤ R.cells) (hslots : slots + 606 ≤ R.slots) (hdg : decode cc pc = .ok (.multianewarray index 2, 4))
    (kk : ∀ (H1 : Heap) (locs1 : List Loc), H1.size = H.size + 7 → (∀ a, a < H.size → H1[a]? = H[a]?) → H1[H.size]? = some (gdC cA H.size 6) → (∀ j, j < 6 → H1[H.size + 1 + j]? = some (gdR cB)) → (∀ q ∈ locs1, q ∈ locs ∨ q.base = H.size) → W p l e R s m args below meth c H1 locs1 (cells + 7) (slots + 606) Q (F0 m (pc + 4) ls (.ref H.size :: rest))) : W p l e R s m args below meth c H locs cells slots Q (F0 m pc ls (.int 100 :: .int 6 :: rest)) := by
  intro T hT X
  obtain ⟨c0, hf0, hl0⟩ := Cond.classLink_spec hown hcl e.platform (by rw [X.admits.platform])
  have hc0 : c0 = cA := Option.some.inj (hf0.symm.trans hA)
  subst hc0
  obtain ⟨hg1, hw1, -⟩ := State.classEntry (e := e) X.warmed hl0
  obtain ⟨vm1, hvm⟩ : ∃ vm1, vm1 = T.vm.noted m.cls index (.cls c0) := ⟨_, rfl⟩
  rw [← hvm] at hg1 hw1
  obtain ⟨kA1, hkA1, eA⟩ := hw1.alike.2.2 _ _ hkA
  obtain ⟨kB1, hkB1, eB⟩ := hw1.alike.2.2 _ _ hkB
  have X1 : Stand p l e R s m args below meth c ((T.setVm vm1).pushCell (gdC c0 (T.setVm vm1).heap.size 0)) locs (cells + 1) (slots + 6) := by
    have := (X.noted hw1).pushed (gdC c0 (T.setVm vm1).heap.size 0)
    rw [gdC_size] at this
    exact this
  have g0 := GZ_0 (T.setVm vm1) c0 cB
  obtain ⟨f1, f2, f3, f4, f5, f6⟩ := GZ_N 6 0 _ g0
  obtain ⟨locs1, XF, hlocs⟩ := gdN_stand 6 0 _ _ _ _ g0 X1
  have hTv : (T.setVm vm1).heap = H := hT
  rw [hTv] at f1 f2 f5 f6 hlocs
  rw [show cells + 1 + 6 = cells + 7 by omega, show slots + 6 + 100 * 6 = slots + 606 by omega] at XF
  rw [Nat.zero_add] at f1 f2 f6
  rw [hTv] at XF
  obtain ⟨T2, hT2⟩ : ∃ T2, T2 = gdN c0 cB H.size 6 0 ((T.setVm vm1).pushCell (gdC c0 H.size 0)) := ⟨_, rfl⟩
  rw [← hT2] at f1 f2 f5 f6 XF
  obtain ⟨t, t1, t2⟩ := kk T2.heap locs1 f1 f5 f2 f6 hlocs T2 rfl XF
  refine ⟨t, ?_, t2⟩
  obtain ⟨hr2, hr3⟩ := X.roomAbove hcells hslots
  have hl2 : ¬ 100 > e.platform.arrayLengthLimit := by rw [Launch.admits_arrayLengthLimit X.admits]; omega
  have hh2 : ¬ 100 * componentBytes .int > e.platform.maxHeapBytes := by rw [Launch.admits_maxHeapBytes X.admits]; decide
  have hh3 : ¬ 6 * componentBytes (.array .int) > e.platform.maxHeapBytes := by rw [Launch.admits_maxHeapBytes X.admits]; decide
  obtain ⟨g1, hg1e⟩ : ∃ g1 : JFrame, g1 = { method := m, pc := pc, locals := ls, stack := rest, locked := none } := ⟨_, rfl⟩
  jvm_step X.here [X.here.top, hexec, hb, hdg]
  simp only [Op.multianewarray.sem, wp_bind', W.resolveClassAt_links (State.method?_setTop (F0 m pc ls (.int 100 :: .int 6 :: rest)) X.here.top) hg1]
  rw [W.popN, if_neg (by decide)]
  refine ⟨F0 m pc ls (.int 100 :: .int 6 :: rest), State.topJava?_setTop' (s := T.setVm vm1) _ X.here.top, [.int 6, .int 100], rest, rfl, rfl, ?_⟩
  rw [show ((T.setTop (F0 m pc ls (.int 100 :: .int 6 :: rest))).setVm vm1).setTop { F0 m pc ls (.int 100 :: .int 6 :: rest) with stack := rest } = (T.setVm vm1).setTop g1 from by
    rw [hg1e]
    exact State.setTop_setTop (s := T.setVm vm1) _ _]
  simp only [List.mapM_cons, List.mapM_nil, wp_bind', wp_pure']
  refine gd_all (k := kA1) (k' := kB1) (c' := cB) (x := x) hkA1 (by rw [eA]; exact hkindA) hkB1 (by rw [eB]; exact hkindB) hl2 hh2 hh3 (by show T.heap.size + 7 ≤ _; omega) (by show T.slotsUsed + 606 ≤ _; omega) (fun d' acts' => ?_)
  rw [State.heap_setTop, hTv, State.pushCell_setTop, gdN_top, ← hT2]
  simp only [wp_bind', W.mark, W.pushRef, State.topJava?_setTop' _ XF.here.top, Option.some.injEq, exists_eq_left', State.setTop_setTop, State.heap_setTop]
  intro acts
  simp [jvm, XF.here.top]
  rw [hg1e]
  exact t1
