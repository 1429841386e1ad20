/-! what the start gives -/
theorem ao_arr {args : Array Value} {s : State} (h : (Cond.arrayOver (.array .int)).before args s = true) : ∃ comp c k, s.vm.findClass "[I" = some comp ∧ s.vm.classes[c]? = some k ∧ k.kind = .array comp (.array .int) ∧ s.vm.findClass "[[I" = some c := by
  unfold Cond.before Cond.holds at h
  rcases q0 : s.vm.findClass "[I" with _ | comp
  · simp [Cond.value, show (FieldType.array .int).toString = "[I" from rfl, q0] at h
  · simp [Cond.value, show (FieldType.array .int).toString = "[I" from rfl, q0] at h
    obtain ⟨c, q1, h⟩ := Option.bind_eq_some_iff.mp h
    obtain ⟨k, q3, h⟩ := Option.map_eq_some_iff.mp h
    have q2 := Array.of_findIdx?_eq_some q1
    rw [q3] at q2
    refine ⟨comp, c, k, rfl, q3, ?_⟩
    rcases q4 : k.kind with _ | ⟨d, ty⟩ | _
    all_goals simp [q4] at q2 h
    exact ⟨by rw [q2, h.1], h.2⟩
theorem w_ao1 : Cond.arrayOver (.array .int) ∈ lw_tbl := List.mem_of_getElem? (i := 127) (by decide +kernel)
theorem w_ao2 : Cond.arrayOver (.object RSH) ∈ lw_tbl := List.mem_of_getElem? (i := 181) (by decide +kernel)
theorem w_lz : Cond.laysStatic "java/lang/String" "COMPACT_STRINGS" "Z" ∈ lw_tbl := List.mem_of_getElem? (i := 521) (by decide +kernel)
theorem w_lq : Cond.laysStatic "jdk/internal/util/Preconditions" "SIOOBE_FORMATTER" "Ljava/util/function/BiFunction;" ∈ lw_tbl := List.mem_of_getElem? (i := 537) (by decide +kernel)
theorem w_sr : ∀ i : Fin 7, Cond.stringRef "GriefGlue$Reader" (strI.getD i.val 0) (strT.getD i.val "") ∈ lw_tbl := by
  intro i
  match i with
  | 0 => exact List.mem_of_getElem? (i := 507) (by decide +kernel)
  | 1 => exact List.mem_of_getElem? (i := 591) (by decide +kernel)
  | 2 => exact List.mem_of_getElem? (i := 596) (by decide +kernel)
  | 3 => exact List.mem_of_getElem? (i := 602) (by decide +kernel)
  | 4 => exact List.mem_of_getElem? (i := 607) (by decide +kernel)
  | 5 => exact List.mem_of_getElem? (i := 608) (by decide +kernel)
  | 6 => exact List.mem_of_getElem? (i := 613) (by decide +kernel)
def tmS (i : Nat) : Term := .string "GriefGlue$Reader" (strI.getD i 0)
def flN : List Cond := flatC (Jvm.Cond.and given_1 narrow_1)
theorem n_ex : ∀ i : Fin 7, Cond.exactly (tmS i.val) "java/lang/String" ∈ flN := by decide +kernel
theorem n_co : ∀ i : Fin 7, Cond.eq (.field (tmS i.val) "java/lang/String" "coder" "B") (.int 0) ∈ flN := by decide +kernel
theorem n_ar : ∀ i : Fin 7, Cond.arrayOf (.field (tmS i.val) "java/lang/String" "value" "[B") .byte ∈ flN := by decide +kernel
theorem n_le : ∀ i : Fin 7, Cond.eq (.length (.field (tmS i.val) "java/lang/String" "value" "[B")) (.int (Int32.ofNat (strL.getD i.val 0))) ∈ flN := by decide +kernel
theorem n_el : ∀ i : Fin 7, ∀ j : Fin 7, j.val < strL.getD i.val 0 → Cond.eq (.elem (.field (tmS i.val) "java/lang/String" "value" "[B") (.int (Int32.ofNat j.val))) (.int ((strB.getD i.val []).getD j.val 0)) ∈ flN := by decide +kernel
theorem n_ne : ∀ i j : Fin 7, i ≠ j → Cond.not (Cond.eq (tmS i.val) (tmS j.val)) ∈ flN ∨ Cond.not (Cond.eq (tmS j.val) (tmS i.val)) ∈ flN := by decide +kernel
theorem n_cs : Cond.eq (.static "java/lang/String" "COMPACT_STRINGS" "Z") (.int 1) ∈ flN := by decide +kernel
theorem n_sq : Cond.isRef (.static "jdk/internal/util/Preconditions" "SIOOBE_FORMATTER" "Ljava/util/function/BiFunction;") ∈ flN := by decide +kernel
theorem strL7 : ∀ i : Fin 7, strL.getD i.val 0 ≤ 7 := by decide
theorem gtb_lw {w : Cond} (h : w ∈ gtb) : w ∈ lw_tbl := (List.mem_filter.mp h).1
theorem start_ok {s : State} {args : Array Value} (hts : ∀ w ∈ lw_tbl, w.before args s = true) (hgv : (Jvm.Cond.and given_1 narrow_1).before args s = true) : ∃ E : Ev, KI E (fun q => s.heap.size ≤ q) s := by
  have hA : ∀ a : Nat, a < s.heap.size → ¬ (fun q => s.heap.size ≤ q) a := fun a h => Nat.not_le.mpr h
  have hn : ∀ w ∈ flN, w.before args s = true := flat_of_before _ hgv
  obtain ⟨c0', i0, k0⟩ := u_known (C := RHI) (T := THI) (N := 4) hts iw_HI (hts _ (gtb_lw gw_is_HI))
  obtain ⟨c1', i1, k1⟩ := u_known (C := RLE) (T := TLE) (N := 4) hts iw_LE (hts _ (gtb_lw gw_is_LE))
  obtain ⟨c2', i2, k2⟩ := u_known (C := ROU) (T := TOU) (N := 6) hts iw_OU (hts _ (gtb_lw gw_is_OU))
  obtain ⟨c3', i3, k3⟩ := u_known (C := RRE) (T := TRE) (N := 8) hts iw_RE (hts _ (gtb_lw gw_is_RE))
  obtain ⟨c4', i4, k4⟩ := u_known (C := RSH) (T := TSH) (N := 10) hts iw_SH (hts _ (gtb_lw gw_is_SH))
  obtain ⟨c5', i5, k5⟩ := u_known (C := RGG) (T := TGG) (N := 11) hts iw_GG (hts _ (gtb_lw gw_is_GG))
  obtain ⟨c6', i6, k6⟩ := u_known (C := RMO) (T := TMO) (N := 23) hts iw_MO (hts _ (gtb_lw gw_is_MO))
  obtain ⟨a0, g0, p0, x0, y0, z0⟩ := Cond.arrayClass_spec (type := .int) (args := args) (first := s) (o := none) (s := s) (idx := []) (hts _ (gtb_lw gw_ac_I))
  obtain ⟨a1, g1, p1, x1, y1, z1⟩ := Cond.arrayClass_spec (type := .byte) (args := args) (first := s) (o := none) (s := s) (idx := []) (hts _ (gtb_lw gw_ac_B))
  obtain ⟨a2, g2, p2, x2, y2, z2⟩ := Cond.arrayClass_spec (type := .boolean) (args := args) (first := s) (o := none) (s := s) (idx := []) (hts _ (gtb_lw gw_ac_Z))
  obtain ⟨a3, g3, p3, x3, y3, z3⟩ := Cond.arrayClass_spec (type := .long) (args := args) (first := s) (o := none) (s := s) (idx := []) (hts _ (gtb_lw gw_ac_J))
  obtain ⟨p4, a4, g4, w4, -, y4, z4, x4⟩ := Cond.arrayOver_spec (n := RSH) (args := args) (first := s) (o := none) (s := s) (idx := []) (hts _ w_ao2)
  obtain ⟨p5, a5, g5, w5, y5, z5, x5⟩ := ao_arr (hts _ w_ao1)
  have e05 : p5 = a0 := Option.some.inj (w5.symm.trans x0)
  subst e05
  obtain ⟨adK, adV, hS1, hS2⟩ := vk_Sof (args := args) (s := s) (N := 7) (tm := tmS) (len := strL) (byt := strB) (A := fun q => s.heap.size ≤ q) (fun i hi => by have : strL.getD i 0 ≤ 7 := strL7 ⟨i, hi⟩; omega) (fun i hi => hn _ (n_ex ⟨i, hi⟩)) (fun i hi => hn _ (n_co ⟨i, hi⟩)) (fun i hi => hn _ (n_ar ⟨i, hi⟩)) (fun i hi => hn _ (n_le ⟨i, hi⟩)) (fun i hi j hj => hn _ (n_el ⟨i, hi⟩ ⟨j, by have : strL.getD i 0 ≤ 7 := strL7 ⟨i, hi⟩; omega⟩ hj)) (fun i j hi hj hij => (n_ne ⟨i, hi⟩ ⟨j, hj⟩ (fun e => hij (Fin.mk.inj e))).imp (hn _) (hn _)) hA
  refine ⟨((fun k => [c0', c1', c2', c3', c4', c5', c6'].getD k 0, fun k => [i0, i1, i2, i3, i4, i5, i6].getD k (fun _ => 0)), fun k => [p5, a1, a2, a3, a4, a5].getD k 0, adK, adV), ⟨⟨?_, ?_⟩, ?_, hS1, ?_, ?_, ?_⟩, ⟨g5, y5, z5⟩, hts _ w_ao2⟩
  · intro c q hq
    match c, hq with
    | 0, hq => cases hq; exact k0
    | 1, hq => cases hq; exact k1
    | 2, hq => cases hq; exact k2
    | 3, hq => cases hq; exact k3
    | 4, hq => cases hq; exact k4
    | 5, hq => cases hq; exact k5
    | 6, hq => cases hq; exact k6
    | c + 7, hq => cases hq
  · intro k q hq
    match k, hq with
    | 0, hq => cases hq; exact ⟨fun N z => ⟨(fun k h => by cases h), g0, y0, p0, z0⟩, x0⟩
    | 1, hq => cases hq; exact ⟨fun N z => ⟨(fun k h => by cases h), g1, y1, p1, z1⟩, x1⟩
    | 2, hq => cases hq; exact ⟨fun N z => ⟨(fun k h => by cases h), g2, y2, p2, z2⟩, x2⟩
    | 3, hq => cases hq; exact ⟨fun N z => ⟨(fun k h => by cases h), g3, y3, p3, z3⟩, x3⟩
    | 4, hq => cases hq; exact ⟨fun N z => ⟨(fun k h => by cases h), g4, y4, p4, z4⟩, g4, p4, y4, z4, w4, x4⟩
    | 5, hq => cases hq; exact ⟨fun N z => ⟨(fun k h => by cases h), g5, y5, p5, z5⟩, x5⟩
    | k + 6, hq => cases hq
  · intro w hw
    exact va_tabs (nst_tab hw) rfl (hts w (List.mem_filter.mp hw).1)
  · intro i hi
    exact vk_R.of (A := args) (hts _ (w_sr ⟨i, hi⟩)) (hS2 i hi)
  · exact va_Zof (hts _ w_lz) (hts _ (gtb_lw gw_ini_ST)) (va_eqi (hn _ n_cs)) hA
  · exact va_Zqof (hts _ w_lq) (hts _ (gtb_lw gw_ini_PR)) (hn _ n_sq) hA
