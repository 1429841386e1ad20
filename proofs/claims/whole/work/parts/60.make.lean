/-! words that constructors need -/
theorem gw_oin : Cond.instanceMethod Lib.objectInit ∈ gtb := gtb_of (List.mem_of_getElem? (i := 90) (by decide +kernel)) rfl
theorem gw_oc : Cond.code Lib.objectInit ⟨#[0xb1]⟩ 1 none ∈ gtb := gtb_of (List.mem_of_getElem? (i := 91) (by decide +kernel)) rfl
theorem gw_oi_GG : Cond.methodLink RGG 3 Lib.objectInit ∈ gtb := gtb_of (List.mem_of_getElem? (i := 89) (by decide +kernel)) rfl
theorem gw_oi_SH : Cond.methodLink RSH 3 Lib.objectInit ∈ gtb := gtb_of (List.mem_of_getElem? (i := 97) (by decide +kernel)) rfl
theorem gw_oi_LE : Cond.methodLink RLE 3 Lib.objectInit ∈ gtb := gtb_of (List.mem_of_getElem? (i := 103) (by decide +kernel)) rfl
theorem gw_oi_RE : Cond.methodLink RRE 3 Lib.objectInit ∈ gtb := gtb_of (List.mem_of_getElem? (i := 187) (by decide +kernel)) rfl
theorem gw_oi_HI : Cond.methodLink RHI 3 Lib.objectInit ∈ gtb := gtb_of (List.mem_of_getElem? (i := 224) (by decide +kernel)) rfl
theorem gw_oi_OU : Cond.methodLink ROU 3 Lib.objectInit ∈ gtb := gtb_of (List.mem_of_getElem? (i := 244) (by decide +kernel)) rfl
theorem gw_oi_MO : Cond.methodLink RMO 1 Lib.objectInit ∈ gtb := gtb_of (List.mem_of_getElem? (i := 854) (by decide +kernel)) rfl
theorem gw_cl_LA_7 : Cond.classLink RLA 7 RGG ∈ gtb := gtb_of (List.mem_of_getElem? (i := 84) (by decide +kernel)) rfl
theorem gw_cl_GG_9 : Cond.classLink RGG 9 RSH ∈ gtb := gtb_of (List.mem_of_getElem? (i := 92) (by decide +kernel)) rfl
theorem gw_cl_SH_9 : Cond.classLink RSH 9 RLE ∈ gtb := gtb_of (List.mem_of_getElem? (i := 98) (by decide +kernel)) rfl
theorem gw_cl_SH_32 : Cond.classLink RSH 32 "[[I" ∈ gtb := gtb_of (List.mem_of_getElem? (i := 126) (by decide +kernel)) rfl
theorem gw_cl_GG_24 : Cond.classLink RGG 24 RRE ∈ gtb := gtb_of (List.mem_of_getElem? (i := 182) (by decide +kernel)) rfl
theorem gw_cl_RE_19 : Cond.classLink RRE 19 RSH ∈ gtb := gtb_of (List.mem_of_getElem? (i := 188) (by decide +kernel)) rfl
theorem gw_cl_GG_31 : Cond.classLink RGG 31 RHI ∈ gtb := gtb_of (List.mem_of_getElem? (i := 219) (by decide +kernel)) rfl
theorem gw_cl_GG_38 : Cond.classLink RGG 38 ROU ∈ gtb := gtb_of (List.mem_of_getElem? (i := 239) (by decide +kernel)) rfl
theorem gw_cl_LA_10 : Cond.classLink RLA 10 RMO ∈ gtb := gtb_of (List.mem_of_getElem? (i := 849) (by decide +kernel)) rfl
theorem gw_is_GG : Cond.instantiable RGG 11 ∈ gtb := gtb_of (List.mem_of_getElem? (i := 85) (by decide +kernel)) rfl
theorem gw_is_SH : Cond.instantiable RSH 10 ∈ gtb := gtb_of (List.mem_of_getElem? (i := 93) (by decide +kernel)) rfl
theorem gw_is_LE : Cond.instantiable RLE 4 ∈ gtb := gtb_of (List.mem_of_getElem? (i := 99) (by decide +kernel)) rfl
theorem gw_is_RE : Cond.instantiable RRE 8 ∈ gtb := gtb_of (List.mem_of_getElem? (i := 183) (by decide +kernel)) rfl
theorem gw_is_HI : Cond.instantiable RHI 4 ∈ gtb := gtb_of (List.mem_of_getElem? (i := 220) (by decide +kernel)) rfl
theorem gw_is_OU : Cond.instantiable ROU 6 ∈ gtb := gtb_of (List.mem_of_getElem? (i := 240) (by decide +kernel)) rfl
theorem gw_is_MO : Cond.instantiable RMO 23 ∈ gtb := gtb_of (List.mem_of_getElem? (i := 850) (by decide +kernel)) rfl
theorem gw_ac_I : Cond.arrayClass .int ∈ gtb := gtb_of (List.mem_of_getElem? (i := 125) (by decide +kernel)) rfl
theorem gw_ac_Z : Cond.arrayClass .boolean ∈ gtb := gtb_of (List.mem_of_getElem? (i := 218) (by decide +kernel)) rfl
theorem gw_ac_J : Cond.arrayClass .long ∈ gtb := gtb_of (List.mem_of_getElem? (i := 238) (by decide +kernel)) rfl
theorem gw_ac_B : Cond.arrayClass .byte ∈ gtb := gtb_of (List.mem_of_getElem? (i := 632) (by decide +kernel)) rfl
/-! lists of cells, in whatever order -/
theorem P_mem {D : va_G} {cl : List vw_C} {w w' : va_W} {H : Heap} (h : va_P D cl w H) (hm : ∀ z ∈ w', z ∈ w) : va_P D cl w' H := by
  intro k q hk
  obtain ⟨i, hi⟩ := List.getElem?_of_mem (hm q (List.mem_of_getElem? hk))
  exact h i q hi
theorem nd_of : ∀ l : List Nat, (∀ i j a : Nat, l[i]? = some a → l[j]? = some a → i = j) → l.Nodup
  | [], _ => List.nodup_nil
  | b :: l, h => by
    rw [List.nodup_cons]
    refine ⟨fun hb => ?_, nd_of l (fun i j a h1 h2 => ?_)⟩
    · obtain ⟨k, hk⟩ := List.getElem?_of_mem hb
      have := h 0 (k + 1) b rfl (by rw [List.getElem?_cons_succ]; exact hk)
      omega
    · have := h (i + 1) (j + 1) a (by rw [List.getElem?_cons_succ]; exact h1) (by rw [List.getElem?_cons_succ]; exact h2)
      omega
theorem D_nd {A : Nat → Prop} {w : va_W} : va_D A w ↔ (w.map Prod.fst).Nodup ∧ ∀ z ∈ w, A z.1 := by
  constructor
  · rintro ⟨h1, h2⟩
    refine ⟨nd_of _ (fun i j a hi hj => ?_), fun z hz => ?_⟩
    · rw [List.getElem?_map] at hi hj
      cases ei : w[i]? with
      | none => rw [ei] at hi; cases hi
      | some x =>
        cases ej : w[j]? with
        | none => rw [ej] at hj; cases hj
        | some y =>
          rw [ei] at hi
          rw [ej] at hj
          exact h1 i j x y ei ej ((Option.some.inj hi).trans (Option.some.inj hj).symm)
    · obtain ⟨k, hk⟩ := List.getElem?_of_mem hz
      exact h2 k z hk
  · rintro ⟨h1, h2⟩
    refine ⟨fun i j p q hi hj hpq => ?_, fun k q hk => h2 q (List.mem_of_getElem? hk)⟩
    have e1 : (w.map Prod.fst)[i]? = some p.1 := by rw [List.getElem?_map, hi]; rfl
    have e2 : (w.map Prod.fst)[j]? = some p.1 := by rw [List.getElem?_map, hj, hpq]; rfl
    exact nd_ix h1 e1 e2
theorem D_perm {A : Nat → Prop} {w w' : va_W} (h : va_D A w) (hp : w.Perm w') : va_D A w' := by
  rw [D_nd] at h ⊢
  exact ⟨(hp.map _).nodup_iff.mp h.1, fun z hz => h.2 z (hp.mem_iff.mpr hz)⟩
theorem P_perm {D : va_G} {cl : List vw_C} {w w' : va_W} {H : Heap} (h : va_P D cl w H) (hp : w.Perm w') : va_P D cl w' H := P_mem h (fun _ hz => hp.mem_iff.mpr hz)
/-- behind a constructor: the cell that was the last one is now a list -/
theorem jn {A : Nat → Prop} {D : va_G} {cl : List vw_C} {ws w1 : va_W} {x : Nat × va_E} {H H1 : Heap} (hP : va_P D cl (ws ++ [x]) H) (hD : va_D A (ws ++ [x])) (hk : ∀ q : Nat, q < H.size → ¬ va_A [x] H.size q → H1[q]? = H[q]?) (hF : ∀ q, va_A [x] H.size q → A q) (hP1 : va_P D cl w1 H1) (hD1 : va_D (va_A [x] H.size) w1) : va_P D cl (ws ++ w1) H1 ∧ va_D A (ws ++ w1) := by
  refine va_join (wc := [x]) (wr := ws) hP hD [ws.length] (List.range ws.length) ?_ ?_ ?_ ?_ hk hF hP1 hD1
  · simp
  · apply List.ext_getElem?
    intro i
    rw [List.getElem?_map, List.getElem?_map]
    by_cases z : i < ws.length
    · rw [List.getElem?_range z, List.getElem?_eq_getElem z]
      show some ((ws ++ [x])[i]?) = _
      rw [List.getElem?_append_left z, List.getElem?_eq_getElem z]
      rfl
    · rw [List.getElem?_eq_none (by rw [List.length_range]; omega), List.getElem?_eq_none (by omega)]
      rfl
  · have : ∀ l : List Nat, l.Nodup → va_nd l = true := by
      intro l
      induction l with
      | nil => intro _; rfl
      | cons a l ih =>
        intro h
        rw [List.nodup_cons] at h
        unfold va_nd
        rw [decide_eq_true h.1, ih h.2]; rfl
    exact this _ List.nodup_range
  · intro i hi hc
    rw [List.mem_range] at hi
    rw [List.mem_singleton] at hc
    omega
/-! what constructors find -/
def KI (E : Ev) (A : Nat → Prop) (U : State) : Prop := Kd E A U ∧ (∃ k, U.vm.classes[E.2.1 5]? = some k ∧ k.kind = .array (E.2.1 0) (.array .int)) ∧ va_AO RSH U
theorem Kd.narrow {E : Ev} {A B : Nat → Prop} {U : State} (h : Kd E A U) (hAB : ∀ q, B q → A q) : Kd E B U := by
  obtain ⟨h1, h2, h3, h4, h5, h6⟩ := h
  exact ⟨h1, h2, h3.narrow hAB, h4, h5.narrow hAB, h6.narrow hAB⟩
theorem KI.to {E : Ev} {A : Nat → Prop} {s U : State} {H : Heap} {locs : List Loc} (h : KI E A s) (hS : va_S A s.heap H locs) (hU : U.heap = H) (hW : s.WarmedH U.vm) : KI E A U := by
  obtain ⟨h1, ⟨k, h2, h3⟩, h4⟩ := h
  refine ⟨h1.to hS hU hW, ?_, h4.moved hW.alike⟩
  obtain ⟨k', hk', he⟩ := hW.alike.2.2 _ _ h2
  exact ⟨k', hk', by rw [he]; exact h3⟩
theorem KI.same {E : Ev} {A : Nat → Prop} {s U : State} (h : KI E A s) (hh : U.heap = s.heap) (hv : U.vm = s.vm) : KI E A U := by
  obtain ⟨h1, ⟨k, h2, h3⟩, h4⟩ := h
  refine ⟨h1.same hh hv, ⟨k, by rw [hv]; exact h2, h3⟩, h4.moved (by rw [hv]; exact Vm.Alike.refl _)⟩
theorem KI.narrow {E : Ev} {A B : Nat → Prop} {U : State} (h : KI E A U) (hAB : ∀ q, B q → A q) : KI E B U := ⟨h.1.narrow hAB, h.2⟩
def AI (h0 ci : Nat) (fs : List Value) (sz : Nat) : Nat → Prop := va_A [(h0, .inr (ci, fs))] sz
def PI (E : Ev) (h0 ci : Nat) (fs : List Value) (sz : Nat) (U : State) : Prop := U.heap.size = sz ∧ va_P E.1 vcl [(h0, .inr (ci, fs))] U.heap ∧ KI E (AI h0 ci fs sz) U
def QI (E : Ev) (A : Nat → Prop) (X : va_W → Prop) : Array Value → State → Outcome → State → Prop := va_Qv (S := va_W) X (fun w t => va_P E.1 vcl w t.heap ∧ va_D A w) A
theorem PI.blind {E : Ev} {h0 ci sz : Nat} {fs : List Value} {av : List Value} : FrameBlind (va_Pc av (PI E h0 ci fs sz)) := by
  intro a U g mk h
  exact ⟨h.1, h.2.1, h.2.2.1, h.2.2.2.same rfl rfl⟩
theorem AI_D {h0 ci sz : Nat} {fs : List Value} : va_D (AI h0 ci fs sz) [(h0, .inr (ci, fs))] := by
  rw [D_nd]
  refine ⟨by simp, fun z hz => ?_⟩
  rw [List.mem_singleton] at hz
  subst hz
  exact Or.inl ⟨0, _, rfl⟩
/-- a constructor's entry -/
theorem enterI {l : Launch} {y : MethodName} {b : ByteArray} {mL : Nat} {rm : Room} {E : Ev} {h0 ci sz mc ms : Nat} {fs : List Value} {As : List Value} {X : va_W → Prop} (hy : plainName y.cls = true) (hn : y.name = "<init>") (hlen : (lg_sl (.ref h0 :: As)).length ≤ mL)
    (body : ∀ (p : Program) (e : Env) (s : State) (m : MethodId) (below : List Frame) (meth : Method) (c : Code) (ls : Array Slot) (A : Nat → Prop), Cx E A y.cls b mL none p s m (Value.ref h0 :: As).toArray meth c → KI E A s → meth.name = "<init>" → (∀ q, s.heap.size ≤ q → A q) → va_P E.1 vcl [(h0, .inr (ci, fs))] s.heap → va_D A [(h0, .inr (ci, fs))] → va_S A s.heap s.heap [] → lv_has ls mL (lv_args 0 (.ref h0 :: As)) →
      W p l e rm s m (Value.ref h0 :: As).toArray below meth c s.heap [] 0 0 (MQ below (QI E A X) (Value.ref h0 :: As).toArray s mc ms A) (F0 m 0 ls [])) : Met l y (Cond.code y b mL none :: gtb) rm (va_Pc (.ref h0 :: As) (PI E h0 ci fs sz)) (QI E (AI h0 ci fs sz) X) mc ms (AI h0 ci fs sz) := by
  refine Met.ofW (cc := b) (maxL := mL) (ret := none) hy rfl ?_
  intro p e s m args below meth c s₁ B hml hv
  obtain ⟨rfl, rfl, hP, hK⟩ := hv
  have hts := atoms_spec (ws := Cond.code y b mL none :: gtb) B.pre
  have hl := lv_entry (.ref h0 :: As) (n := mL) hlen
  have hin : meth.name = "<init>" := (name_of_methodNamed B.named B.method).1.trans hn
  rw [lg_entry_eq]
  exact body p e s m below meth c _ _ ⟨B.exec, B.bytes, hml, B.returns, findClass_of_methodNamed B.named, fun w hw => hts w (List.mem_cons_of_mem _ hw), B.notSynchronized, hK.1⟩ hK hin (fun q h => Or.inr h) hP AI_D va_S.rf hl
