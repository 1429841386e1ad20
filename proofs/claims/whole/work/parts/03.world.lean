/-! the state of a world: ints and longs by cell and place -/
abbrev St : Type := (Nat → Nat → Int32) × (Nat → Nat → Int64)
def gi (x : St) (q k : Nat) : Int32 := x.1 q k
def gl (x : St) (q k : Nat) : Int64 := x.2 q k
def si (x : St) (q k : Nat) (v : Int32) : St := (fun a b => if a = q ∧ b = k then v else x.1 a b, x.2)
def sl (x : St) (q k : Nat) (v : Int64) : St := (x.1, fun a b => if a = q ∧ b = k then v else x.2 a b)
/-- n places of cell q from sp on, copied to cell d from dp on -/
def cpi (x : St) (q sp d dp n : Nat) : St := (fun a b => if a = d ∧ dp ≤ b ∧ b < dp + n then x.1 q (sp + (b - dp)) else x.1 a b, x.2)
def cpl (x : St) (q sp d dp n : Nat) : St := (x.1, fun a b => if a = d ∧ dp ≤ b ∧ b < dp + n then x.2 q (sp + (b - dp)) else x.2 a b)
theorem gi_si_s (x : St) (q k : Nat) (v : Int32) : gi (si x q k v) q k = v := by simp [gi, si]
theorem gi_si_n (x : St) (q k : Nat) (v : Int32) {a b : Nat} (h : ¬ (a = q ∧ b = k)) : gi (si x q k v) a b = gi x a b := by simp [gi, si, h]
theorem gi_si (x : St) (q k : Nat) (v : Int32) (a b : Nat) : gi (si x q k v) a b = if a = q ∧ b = k then v else gi x a b := rfl
theorem gl_si (x : St) (q k : Nat) (v : Int32) (a b : Nat) : gl (si x q k v) a b = gl x a b := rfl
theorem gi_sl (x : St) (q k : Nat) (v : Int64) (a b : Nat) : gi (sl x q k v) a b = gi x a b := rfl
theorem gl_sl (x : St) (q k : Nat) (v : Int64) (a b : Nat) : gl (sl x q k v) a b = if a = q ∧ b = k then v else gl x a b := rfl
theorem gi_cpi (x : St) (q sp d dp n a b : Nat) : gi (cpi x q sp d dp n) a b = if a = d ∧ dp ≤ b ∧ b < dp + n then gi x q (sp + (b - dp)) else gi x a b := rfl
theorem gl_cpi (x : St) (q sp d dp n a b : Nat) : gl (cpi x q sp d dp n) a b = gl x a b := rfl
theorem gi_cpl (x : St) (q sp d dp n a b : Nat) : gi (cpl x q sp d dp n) a b = gi x a b := rfl
theorem gl_cpl (x : St) (q sp d dp n a b : Nat) : gl (cpl x q sp d dp n) a b = if a = d ∧ dp ≤ b ∧ b < dp + n then gl x q (sp + (b - dp)) else gl x a b := rfl
/-! runs that may fail -/
def bnd {α β : Type} (o : Option (α × St)) (k : α → St → Option β) : Option β := match o with
  | none => none
  | some (a, x) => k a x
theorem bnd_some {α β : Type} (a : α) (x : St) (k : α → St → Option β) : bnd (some (a, x)) k = k a x := rfl
theorem of_bnd {α β : Type} {o : Option (α × St)} {k : α → St → Option β} {z : β} (h : bnd o k = some z) : ∃ a x, o = some (a, x) ∧ k a x = some z := by
  match o, h with
  | some (a, x), h => exact ⟨a, x, rfl, h⟩
theorem of_ifb {β : Type} {b : Bool} {o : Option β} {z : β} (h : (if b = true then o else none) = some z) : b = true ∧ o = some z := by
  cases b with
  | true => exact ⟨rfl, h⟩
  | false => cases h
theorem of_ifp {β : Type} {c : Prop} [Decidable c] {o : Option β} {z : β} (h : (if c then o else none) = some z) : c ∧ o = some z := by
  by_cases hc : c
  · exact ⟨hc, (if_pos hc).symm.trans h⟩
  · rw [if_neg hc] at h; cases h
theorem of_ret {α : Type} {v r : α} {x y : St} (h : some (v, x) = some (r, y)) : v = r ∧ x = y := by cases h; exact ⟨rfl, rfl⟩
theorem of_no {β : Type} {P : Prop} {z : β} (h : (none : Option β) = some z) : P := by cases h
/-- the index i lies in a row of n -/
def ixb (i : Int32) (n : Nat) : Bool := !decide (i < 0) && decide (i.toNatClampNeg < n)
theorem ixb_in {i : Int32} {n : Nat} (h : ixb i n = true) : vp_in i n := by
  unfold ixb at h
  simp only [Bool.and_eq_true, Bool.not_eq_true', decide_eq_false_iff_not, decide_eq_true_eq] at h
  exact fun q => q.elim h.1 (fun z => by omega)
abbrev ix (i : Int32) : Nat := i.toNatClampNeg
/-- a stretch of n from sp on lies in a row of len -/
def spb (sp n : Int32) (len : Nat) : Bool := !decide (sp < 0) && (!decide (n < 0) && decide (sp.toNatClampNeg + n.toNatClampNeg ≤ len))
theorem spb_in {sp n : Int32} {len : Nat} (h : spb sp n len = true) : ¬ sp < 0 ∧ ¬ n < 0 ∧ sp.toNatClampNeg + n.toNatClampNeg ≤ len := by
  unfold spb at h
  simp only [Bool.and_eq_true, Bool.not_eq_true', decide_eq_false_iff_not, decide_eq_true_eq] at h
  exact h
def FU : Nat := 2000
/-! the cells: kinds, lengths, references; the class's 0 .. 95, the reference's 100 .. 112 -/
def kdL : List Nat := [5, 24, 22, 3, 20, 0, 20, 23, 20, 2, 20, 20, 20, 20, 23, 23, 4, 1, 20, 1, 20, 1, 20, 1, 20, 1, 20, 25, 20, 20, 20, 20, 20, 20, 20, 20, 4, 1, 20, 1, 20, 1, 20, 1, 20, 1, 20, 25, 20, 20, 20, 20, 20, 20, 20, 20, 4, 1, 20, 1, 20, 1, 20, 1, 20, 1, 20, 25, 20, 20, 20, 20, 20, 20, 20, 20, 4, 1, 20, 1, 20, 1, 20, 1, 20, 1, 20, 25, 20, 20, 20, 20, 20, 20, 20, 20, 99, 99, 99, 99, 6, 20, 22, 20, 21, 20, 20, 20, 20, 20, 23, 23, 20]
def lnL : List Nat := [0, 2, 2, 0, 250, 0, 6, 6, 6, 0, 100, 100, 100, 100, 100, 100, 0, 0, 18, 0, 6, 0, 8, 0, 30, 0, 18, 6, 100, 100, 100, 100, 100, 100, 18, 190, 0, 0, 18, 0, 6, 0, 8, 0, 30, 0, 18, 6, 100, 100, 100, 100, 100, 100, 18, 190, 0, 0, 18, 0, 6, 0, 8, 0, 30, 0, 18, 6, 100, 100, 100, 100, 100, 100, 18, 190, 0, 0, 18, 0, 6, 0, 8, 0, 30, 0, 18, 6, 100, 100, 100, 100, 100, 100, 18, 190, 0, 0, 0, 0, 0, 1260, 2, 3, 250, 600, 6, 100, 100, 100, 100, 100, 6]
def rfL : List (List Nat) := [[16, 1, 2, 3, 5, 9, 0, 0, 0, 0, 0], [36, 56], [], [4, 0, 0, 0, 76, 0, 0, 0], [], [6, 7, 8, 0], [], [], [], [10, 11, 12, 13, 14, 15], [], [], [], [], [], [], [17, 19, 21, 23, 25, 27, 34, 35, 0, 0], [0, 0, 18, 0], [], [0, 0, 20, 0], [], [0, 0, 22, 0], [], [0, 0, 24, 0], [], [0, 0, 26, 0], [], [28, 29, 30, 31, 32, 33], [], [], [], [], [], [], [], [], [37, 39, 41, 43, 45, 47, 54, 55, 0, 0], [0, 0, 38, 0], [], [0, 0, 40, 0], [], [0, 0, 42, 0], [], [0, 0, 44, 0], [], [0, 0, 46, 0], [], [48, 49, 50, 51, 52, 53], [], [], [], [], [], [], [], [], [57, 59, 61, 63, 65, 67, 74, 75, 0, 0], [0, 0, 58, 0], [], [0, 0, 60, 0], [], [0, 0, 62, 0], [], [0, 0, 64, 0], [], [0, 0, 66, 0], [], [68, 69, 70, 71, 72, 73], [], [], [], [], [], [], [], [], [77, 79, 81, 83, 85, 87, 94, 95, 0, 0], [0, 0, 78, 0], [], [0, 0, 80, 0], [], [0, 0, 82, 0], [], [0, 0, 84, 0], [], [0, 0, 86, 0], [], [88, 89, 90, 91, 92, 93], [], [], [], [], [], [], [], [], [], [], [], [], [101, 0, 102, 103, 0, 0, 104, 0, 0, 0, 0, 0, 0, 0, 105, 106, 107, 108, 109, 110, 111, 112, 0], [], [], [], [], [], [], [], [], [], [], [], []]
def kd (q : Nat) : Nat := kdL.getD q 99
def ln (q : Nat) : Nat := lnL.getD q 0
def rf (q k : Nat) : Nat := (rfL.getD q []).getD k 0
def ftL : List (List Nat) := [[2, 2, 2, 0], [0, 0, 2, 0], [2, 2, 2, 2, 2, 2], [2, 0, 0, 0, 2, 0, 0, 0], [2, 2, 2, 2, 2, 2, 2, 2, 0, 0], [2, 2, 2, 2, 2, 2, 1, 1, 0, 0, 0], [2, 0, 2, 2, 1, 1, 2, 0, 0, 0, 0, 0, 0, 0, 2, 2, 2, 2, 2, 2, 2, 2, 1]]
def ft (c k : Nat) : Nat := (ftL.getD c []).getD k 9
def nf (c : Nat) : Nat := (ftL.getD c []).length
def ixC : List Nat := List.range 96
def ixM : List Nat := List.range' 100 13
theorem ndC : ixC.Nodup := List.nodup_range
theorem ndM : ixM.Nodup := List.nodup_range'
/-- a cell of kind k -/
def isO (js : List Nat) (q k : Nat) : Prop := q ∈ js ∧ kd q = k
def fv (ad : Nat → Nat) (x : St) (q k : Nat) : Value := if ft (kd q) k = 0 then .int (gi x q k) else if ft (kd q) k = 1 then .long (gl x q k) else .ref (ad (rf q k))
def ent (cA : Nat → ClassId) (ad : Nat → Nat) (x : St) (q : Nat) : va_E :=
  if kd q = 20 then .inl (cA 0, ln q, .inl (gi x q))
  else if kd q = 21 then .inl (cA 1, ln q, .inl (gi x q))
  else if kd q = 22 then .inl (cA 2, ln q, .inl (gi x q))
  else if kd q = 23 then .inl (cA 3, ln q, .inr (.inl (gl x q)))
  else if kd q = 24 then .inl (cA 4, ln q, .inr (.inr (.inr (.inr (fun i => some (ad (rf q i)))))))
  else if kd q = 25 then .inl (cA 5, ln q, .inr (.inr (.inr (.inr (fun i => some (ad (rf q i)))))))
  else .inr (kd q, (List.range (nf (kd q))).map (fv ad x q))
def tyl (cA : Nat → ClassId) : List (ClassId × FieldType) := [(cA 0, .int), (cA 1, .byte), (cA 2, .boolean), (cA 3, .long), (cA 4, .object "GriefGlue$Shop"), (cA 5, .array .int)]
def wl (cA : Nat → ClassId) (ad : Nat → Nat) (js : List Nat) (x : St) : va_W := js.map fun q => (ad q, ent cA ad x q)
/-- what the start gives: classes and slots, array classes, the addresses of the String constants and of their bytes -/
abbrev Ev : Type := va_G × (Nat → ClassId) × (Nat → Nat) × (Nat → Nat)
def Wd (E : Ev) (ad : Nat → Nat) (js : List Nat) (x : St) (H : Heap) : Prop := va_P E.1 vcl (wl E.2.1 ad js x) H
def isNest : Cond → Bool
  | .fieldLinkNest .. => true
  | .methodLinkNest .. => true
  | _ => false
def nst : List Cond := lw_tbl.filter isNest
def gtb : List Cond := lw_tbl.filter goodWord
theorem gtb_of {w : Cond} (h : w ∈ lw_tbl) (g : goodWord w = true) : w ∈ gtb := List.mem_filter.mpr ⟨h, g⟩
theorem nst_of {w : Cond} (h : w ∈ lw_tbl) (g : isNest w = true) : w ∈ nst := List.mem_filter.mpr ⟨h, g⟩
theorem nst_tab {w : Cond} (h : w ∈ nst) : w.onTables = true := by
  have h2 := (List.mem_filter.mp h).2
  cases w <;> first | rfl | cases h2
theorem nst_warm {w : Cond} (h : w ∈ nst) {s U : State} (hW : s.WarmedH U.vm) (hZ : va_Nw w s) : va_Nw w U := by
  have h2 := (List.mem_filter.mp h).2
  cases w <;> first | exact va_Nw.warmF hW hZ | exact va_Nw.warmM hW hZ | cases h2
def strI : List Nat := [41, 50, 55, 60, 66, 68, 73]
def strT : List String := ["mourner", "joint", "piece", "wedding", "onion", "day", "boil"]
def strL : List Nat := [7, 5, 5, 7, 5, 3, 4]
def strB : List (List Int32) := [[109, 111, 117, 114, 110, 101, 114], [106, 111, 105, 110, 116], [112, 105, 101, 99, 101], [119, 101, 100, 100, 105, 110, 103], [111, 110, 105, 111, 110], [100, 97, 121], [98, 111, 105, 108]]
/-- what holds of the machine at a method's entry -/
def Kd (E : Ev) (A : Nat → Prop) (U : State) : Prop := va_K E.1 vcl (tyl E.2.1) U ∧ (∀ w ∈ nst, va_Nw w U) ∧ vk_S 7 strL strB E.2.2.1 E.2.2.2 A U U.heap ∧ (∀ i, i < 7 → vk_R "GriefGlue$Reader" (strI.getD i 0) (strT.getD i "") (E.2.2.1 i) U) ∧ va_Z "java/lang/String" "COMPACT_STRINGS" "Z" (.int 1) A U U.heap ∧ va_Zq "jdk/internal/util/Preconditions" "SIOOBE_FORMATTER" "Ljava/util/function/BiFunction;" A U U.heap
theorem Kd.to {E : Ev} {A : Nat → Prop} {s U : State} {H : Heap} {locs : List Loc} (h : Kd E A s) (hS : va_S A s.heap H locs) (hU : U.heap = H) (hW : s.WarmedH U.vm) : Kd E A U := by
  obtain ⟨h1, h2, h3, h4, h5, h6⟩ := h
  refine ⟨va_K.moved hW.alike h1, fun w hw => nst_warm hw hW (h2 w hw), ?_, fun i hi => vk_R.warm hW (h4 i hi), ?_, ?_⟩
  · rw [hU]; exact vk_S.moved hW.alike (h3.kept hS.2.1)
  · rw [hU]; exact va_Z.moved hW.alike (h5.kept hS.2.1)
  · rw [hU]; exact va_Zq.moved hW.alike (h6.kept hS.2.1)
theorem Kd.same {E : Ev} {A : Nat → Prop} {s U : State} (h : Kd E A s) (hh : U.heap = s.heap) (hv : U.vm = s.vm) : Kd E A U := by
  obtain ⟨h1, h2, h3, h4, h5, h6⟩ := h
  have ha : s.vm.Alike U.vm := by rw [hv]; exact Vm.Alike.refl _
  refine ⟨va_K.moved ha h1, fun w hw => (h2 w hw).same (nst_tab hw) hv.symm, ?_, fun i hi => vk_R.same hv (h4 i hi), ?_, ?_⟩
  · rw [hh]; exact vk_S.moved ha h3
  · rw [hh]; exact va_Z.moved ha h5
  · rw [hh]; exact va_Zq.moved ha h6
def Ap (ad : Nat → Nat) (js : List Nat) (A : Nat → Prop) : Prop := js.Nodup ∧ (∀ q ∈ js, ∀ r ∈ js, ad q = ad r → q = r) ∧ ∀ q ∈ js, A (ad q)
theorem wl_at {cA : Nat → ClassId} {ad : Nat → Nat} {js : List Nat} {x : St} {q : Nat} (h : q ∈ js) : ∃ k : Nat, js[k]? = some q ∧ (wl cA ad js x)[k]? = some (ad q, ent cA ad x q) := by
  obtain ⟨k, hk⟩ := List.getElem?_of_mem h
  exact ⟨k, hk, by unfold wl; rw [List.getElem?_map, hk]; rfl⟩
theorem wl_get {cA : Nat → ClassId} {ad : Nat → Nat} {js : List Nat} {x : St} {k : Nat} {z : Nat × va_E} (h : (wl cA ad js x)[k]? = some z) : ∃ q : Nat, js[k]? = some q ∧ z = (ad q, ent cA ad x q) := by
  unfold wl at h
  rw [List.getElem?_map] at h
  cases hq : js[k]? with
  | none => rw [hq] at h; cases h
  | some q => rw [hq] at h; exact ⟨q, rfl, (Option.some.inj h).symm⟩
theorem nd_ix {js : List Nat} (h : js.Nodup) {i j q : Nat} (hi : js[i]? = some q) (hj : js[j]? = some q) : i = j := by
  obtain ⟨li, ei⟩ := List.getElem?_eq_some_iff.mp hi
  obtain ⟨lj, ej⟩ := List.getElem?_eq_some_iff.mp hj
  exact (List.getElem_inj h).mp (ei.trans ej.symm)
theorem Ap.D {cA : Nat → ClassId} {ad : Nat → Nat} {js : List Nat} {A : Nat → Prop} {x : St} (h : Ap ad js A) : va_D A (wl cA ad js x) := by
  refine ⟨fun i j p q hi hj hpq => ?_, fun k q hk => ?_⟩
  · obtain ⟨a, ha, rfl⟩ := wl_get hi
    obtain ⟨b, hb, rfl⟩ := wl_get hj
    have e := h.2.1 a (List.mem_of_getElem? ha) b (List.mem_of_getElem? hb) hpq
    subst e
    exact nd_ix h.1 ha hb
  · obtain ⟨a, ha, rfl⟩ := wl_get hk
    exact h.2.2 a (List.mem_of_getElem? ha)
theorem wl_set {cA : Nat → ClassId} {ad : Nat → Nat} {js : List Nat} {x y : St} {k q : Nat} (hn : js.Nodup) (hk : js[k]? = some q) (ho : ∀ r, r ≠ q → ent cA ad y r = ent cA ad x r) : (wl cA ad js x).set k (ad q, ent cA ad y q) = wl cA ad js y := by
  apply List.ext_getElem?
  intro i
  by_cases hi : i = k
  · subst hi
    rw [List.getElem?_set_self (by unfold wl; rw [List.length_map]; exact (List.getElem?_eq_some_iff.mp hk).1)]
    unfold wl
    rw [List.getElem?_map, hk]
    rfl
  · rw [List.getElem?_set_ne (Ne.symm hi)]
    unfold wl
    rw [List.getElem?_map, List.getElem?_map]
    cases hq : js[i]? with
    | none => rfl
    | some r =>
      have hr : r ≠ q := fun e => hi (nd_ix hn (e ▸ hq) hk)
      show some (ad r, ent cA ad x r) = some (ad r, ent cA ad y r)
      rw [ho r hr]
theorem ent_loc {cA : Nat → ClassId} {ad : Nat → Nat} {x y : St} {r : Nat} (h1 : ∀ k, gi y r k = gi x r k) (h2 : ∀ k, gl y r k = gl x r k) : ent cA ad y r = ent cA ad x r := by
  have e1 : gi y r = gi x r := funext h1
  have e2 : gl y r = gl x r := funext h2
  have e3 : fv ad y r = fv ad x r := by funext k; simp only [fv, h1 k, h2 k]
  unfold ent
  rw [e1, e2, e3]
theorem ent_si {cA : Nat → ClassId} {ad : Nat → Nat} {x : St} {q k : Nat} {v : Int32} {r : Nat} (h : r ≠ q) : ent cA ad (si x q k v) r = ent cA ad x r := ent_loc (fun j => gi_si_n _ _ _ _ (fun e => h e.1)) (fun _ => rfl)
theorem ent_sl {cA : Nat → ClassId} {ad : Nat → Nat} {x : St} {q k : Nat} {v : Int64} {r : Nat} (h : r ≠ q) : ent cA ad (sl x q k v) r = ent cA ad x r := ent_loc (fun _ => rfl) (fun j => by rw [gl_sl, if_neg (fun e => h e.1)])
theorem ent_cpi {cA : Nat → ClassId} {ad : Nat → Nat} {x : St} {q sp d dp n r : Nat} (h : r ≠ d) : ent cA ad (cpi x q sp d dp n) r = ent cA ad x r := ent_loc (fun j => by rw [gi_cpi, if_neg (fun e => h e.1)]) (fun _ => rfl)
theorem ent_cpl {cA : Nat → ClassId} {ad : Nat → Nat} {x : St} {q sp d dp n r : Nat} (h : r ≠ d) : ent cA ad (cpl x q sp d dp n) r = ent cA ad x r := ent_loc (fun _ => rfl) (fun j => by rw [gl_cpl, if_neg (fun e => h e.1)])
theorem ent_o {cA : Nat → ClassId} {ad : Nat → Nat} {x : St} {q c : Nat} (h : kd q = c) (hc : c < 20) : ent cA ad x q = .inr (c, (List.range (nf c)).map (fv ad x q)) := by
  unfold ent
  rw [h, if_neg (by omega), if_neg (by omega), if_neg (by omega), if_neg (by omega), if_neg (by omega), if_neg (by omega)]
theorem ent_20 {cA : Nat → ClassId} {ad : Nat → Nat} {x : St} {q : Nat} (h : kd q = 20) : ent cA ad x q = .inl (cA 0, ln q, .inl (gi x q)) := by unfold ent; rw [if_pos h]
theorem ent_21 {cA : Nat → ClassId} {ad : Nat → Nat} {x : St} {q : Nat} (h : kd q = 21) : ent cA ad x q = .inl (cA 1, ln q, .inl (gi x q)) := by unfold ent; rw [if_neg (by omega), if_pos h]
theorem ent_22 {cA : Nat → ClassId} {ad : Nat → Nat} {x : St} {q : Nat} (h : kd q = 22) : ent cA ad x q = .inl (cA 2, ln q, .inl (gi x q)) := by unfold ent; rw [if_neg (by omega), if_neg (by omega), if_pos h]
theorem ent_23 {cA : Nat → ClassId} {ad : Nat → Nat} {x : St} {q : Nat} (h : kd q = 23) : ent cA ad x q = .inl (cA 3, ln q, .inr (.inl (gl x q))) := by unfold ent; rw [if_neg (by omega), if_neg (by omega), if_neg (by omega), if_pos h]
theorem ent_24 {cA : Nat → ClassId} {ad : Nat → Nat} {x : St} {q : Nat} (h : kd q = 24) : ent cA ad x q = .inl (cA 4, ln q, .inr (.inr (.inr (.inr (fun i => some (ad (rf q i))))))) := by unfold ent; rw [if_neg (by omega), if_neg (by omega), if_neg (by omega), if_neg (by omega), if_pos h]
theorem ent_25 {cA : Nat → ClassId} {ad : Nat → Nat} {x : St} {q : Nat} (h : kd q = 25) : ent cA ad x q = .inl (cA 5, ln q, .inr (.inr (.inr (.inr (fun i => some (ad (rf q i))))))) := by unfold ent; rw [if_neg (by omega), if_neg (by omega), if_neg (by omega), if_neg (by omega), if_neg (by omega), if_pos h]
theorem fs_at {ad : Nat → Nat} {x : St} {q n k : Nat} (h : k < n) : ((List.range n).map (fv ad x q))[k]? = some (fv ad x q k) := by
  rw [List.getElem?_map, List.getElem?_range h]; rfl
theorem fs_set {ad : Nat → Nat} {x y : St} {q n k : Nat} (ho : ∀ j, j ≠ k → fv ad y q j = fv ad x q j) : ((List.range n).map (fv ad x q)).set k (fv ad y q k) = (List.range n).map (fv ad y q) := by
  apply List.ext_getElem?
  intro i
  by_cases hn : i < n
  · by_cases hi : i = k
    · subst hi
      rw [List.getElem?_set_self (by simp [hn]), fs_at hn]
    · rw [List.getElem?_set_ne (Ne.symm hi), fs_at hn, fs_at hn, ho i hi]
  · rw [List.getElem?_eq_none (by simp; omega), List.getElem?_eq_none (by simp; omega)]
theorem fs_si {ad : Nat → Nat} {x : St} {q n k : Nat} {v : Int32} (h : ft (kd q) k = 0) : ((List.range n).map (fv ad x q)).set k (.int v) = (List.range n).map (fv ad (si x q k v) q) := by
  have e : fv ad (si x q k v) q k = .int v := by unfold fv; rw [if_pos h, gi_si_s]
  rw [← e]
  exact fs_set fun j hj => by
    unfold fv
    rw [gi_si_n _ _ _ _ (fun z => hj z.2), gl_si]
theorem fs_sl {ad : Nat → Nat} {x : St} {q n k : Nat} {v : Int64} (h : ft (kd q) k = 1) : ((List.range n).map (fv ad x q)).set k (.long v) = (List.range n).map (fv ad (sl x q k v) q) := by
  have e : fv ad (sl x q k v) q k = .long v := by unfold fv; rw [if_neg (by omega), if_pos h, gl_sl, if_pos ⟨rfl, rfl⟩]
  rw [← e]
  exact fs_set fun j hj => by
    have e2 : gl (sl x q k v) q j = gl x q j := by rw [gl_sl, if_neg (fun z => hj z.2)]
    unfold fv
    rw [e2, gi_sl]
theorem gi_row (x : St) (q k : Nat) (v : Int32) : gi (si x q k v) q = upd (gi x q) k v := by
  funext j
  simp [gi, si, upd]
theorem gl_row (x : St) (q k : Nat) (v : Int64) : gl (sl x q k v) q = vp_updL (gl x q) k v := by
  funext j
  simp [gl, sl, vp_updL]
theorem gi_cprow (x : St) (q sp d dp n : Nat) : gi (cpi x q sp d dp n) d = va_cpy (gi x q) (gi x d) sp dp n := by
  funext j
  simp [gi, cpi, va_cpy]
theorem gl_cprow (x : St) (q sp d dp n : Nat) : gl (cpl x q sp d dp n) d = va_cpy (gl x q) (gl x d) sp dp n := by
  funext j
  simp [gl, cpl, va_cpy]
/-- a method's world at its start -/
def PB (E : Ev) (A : Nat → Prop) (ad : Nat → Nat) (js : List Nat) (x : St) (U : State) : Prop := Wd E ad js x U.heap ∧ Kd E A U
/-- a method's end: its answer, its world -/
def QX (E : Ev) (ad : Nat → Nat) (js : List Nat) (A : Nat → Prop) (rv : Option Value) (x : St) : Array Value → State → Outcome → State → Prop := fun _ st oc t => (oc = .returned rv ∧ Wd E ad js x t.heap) ∧ va_F A st t
def Cx (E : Ev) (A : Nat → Prop) (own : String) (cc : ByteArray) (nL : Nat) (rt : Option FieldType) (p : Program) (s : State) (m : MethodId) (args : Array Value) (meth : Method) (c : Code) : Prop :=
  p.tables.exec = Jvm.exec ∧ c.code = cc ∧ c.maxLocals = nL ∧ meth.sig.returnType = rt ∧ s.vm.findClass own = some m.cls ∧ (∀ w ∈ gtb, w.before args s = true) ∧ meth.locks = false ∧ Kd E A s
section Rows
variable {p : Program} {l : Launch} {e : Env} {R : Room} {s : State} {m : MethodId} {args : Array Value} {below : List Frame} {meth : Method} {c : Code} {H : Heap} {locs : List Loc} {cells slots : Nat} {Q : State → Prop}
variable {cc : ByteArray} {pc : Nat} {ls : Array Slot} {rest : List Value} {E : Ev} {A : Nat → Prop} {ad : Nat → Nat} {js : List Nat} {x : St} {own : String} {nL : Nat} {rt : Option FieldType}
theorem rgI (C0 : Cx E A own cc nL rt p s m args meth c) (hP : Wd E ad js x H) {q ci k index N : Nat} {C : String} {T : u_T} (ho : isO js q ci) (hc : vcl[ci]? = some (C, T, N)) (hci : ci < 20) (hN : nf ci = N) (hin : ∀ w ∈ u_ws C T N, w ∈ gtb) (hk : k < N) (hft : ft ci k = 0) (hd : (T k).1 = C) (hl : Cond.fieldLink own index C (T k).2.1 (T k).2.2.1 ∈ gtb) (hdg : decode cc pc = .ok (.getfield index, 3))
    (kk : W p l e R s m args below meth c H locs cells slots Q (F0 m (pc + 3) ls (.int (gi x q k) :: rest))) : W p l e R s m args below meth c H locs cells slots Q (F0 m pc ls (.ref (ad q) :: rest)) := by
  obtain ⟨hx, hb, -, -, hown, hts, -, hK⟩ := C0
  obtain ⟨n, -, h2⟩ := wl_at (cA := E.2.1) (ad := ad) (x := x) ho.1
  rw [ent_o ho.2 hci, hN] at h2
  exact va_get hx hb hts hin hown hK.1 hP n h2 hc k hk (hts _ hl) (fun _ h => by rw [hd] at h; exact h) (v := .int (gi x q k)) (by rw [fs_at hk]; simp [fv, ho.2, hft]) hdg kk
theorem rgL (C0 : Cx E A own cc nL rt p s m args meth c) (hP : Wd E ad js x H) {q ci k index N : Nat} {C : String} {T : u_T} (ho : isO js q ci) (hc : vcl[ci]? = some (C, T, N)) (hci : ci < 20) (hN : nf ci = N) (hin : ∀ w ∈ u_ws C T N, w ∈ gtb) (hk : k < N) (hft : ft ci k = 1) (hd : (T k).1 = C) (hl : Cond.fieldLink own index C (T k).2.1 (T k).2.2.1 ∈ gtb) (hdg : decode cc pc = .ok (.getfield index, 3))
    (kk : W p l e R s m args below meth c H locs cells slots Q (F0 m (pc + 3) ls (.long (gl x q k) :: rest))) : W p l e R s m args below meth c H locs cells slots Q (F0 m pc ls (.ref (ad q) :: rest)) := by
  obtain ⟨hx, hb, -, -, hown, hts, -, hK⟩ := C0
  obtain ⟨n, -, h2⟩ := wl_at (cA := E.2.1) (ad := ad) (x := x) ho.1
  rw [ent_o ho.2 hci, hN] at h2
  exact va_get hx hb hts hin hown hK.1 hP n h2 hc k hk (hts _ hl) (fun _ h => by rw [hd] at h; exact h) (v := .long (gl x q k)) (by rw [fs_at hk]; simp [fv, ho.2, hft]) hdg kk
theorem rgR (C0 : Cx E A own cc nL rt p s m args meth c) (hP : Wd E ad js x H) {q ci k index N : Nat} {C : String} {T : u_T} (ho : isO js q ci) (hc : vcl[ci]? = some (C, T, N)) (hci : ci < 20) (hN : nf ci = N) (hin : ∀ w ∈ u_ws C T N, w ∈ gtb) (hk : k < N) (hft : ft ci k = 2) (hd : (T k).1 = C) (hl : Cond.fieldLink own index C (T k).2.1 (T k).2.2.1 ∈ gtb) (hdg : decode cc pc = .ok (.getfield index, 3))
    (kk : W p l e R s m args below meth c H locs cells slots Q (F0 m (pc + 3) ls (.ref (ad (rf q k)) :: rest))) : W p l e R s m args below meth c H locs cells slots Q (F0 m pc ls (.ref (ad q) :: rest)) := by
  obtain ⟨hx, hb, -, -, hown, hts, -, hK⟩ := C0
  obtain ⟨n, -, h2⟩ := wl_at (cA := E.2.1) (ad := ad) (x := x) ho.1
  rw [ent_o ho.2 hci, hN] at h2
  exact va_get hx hb hts hin hown hK.1 hP n h2 hc k hk (hts _ hl) (fun _ h => by rw [hd] at h; exact h) (v := .ref (ad (rf q k))) (by rw [fs_at hk]; simp [fv, ho.2, hft]) hdg kk
theorem rgIN (C0 : Cx E A own cc nL rt p s m args meth c) (hP : Wd E ad js x H) {q ci k index N : Nat} {C host : String} {T : u_T} (ho : isO js q ci) (hc : vcl[ci]? = some (C, T, N)) (hci : ci < 20) (hN : nf ci = N) (hin : ∀ w ∈ u_ws C T N, w ∈ gtb) (hk : k < N) (hft : ft ci k = 0) (hd : (T k).1 = C) (hl : Cond.fieldLinkNest own index C (T k).2.1 (T k).2.2.1 host ∈ nst) (hdg : decode cc pc = .ok (.getfield index, 3))
    (kk : W p l e R s m args below meth c H locs cells slots Q (F0 m (pc + 3) ls (.int (gi x q k) :: rest))) : W p l e R s m args below meth c H locs cells slots Q (F0 m pc ls (.ref (ad q) :: rest)) := by
  obtain ⟨hx, hb, -, -, hown, hts, -, hK⟩ := C0
  obtain ⟨n, -, h2⟩ := wl_at (cA := E.2.1) (ad := ad) (x := x) ho.1
  rw [ent_o ho.2 hci, hN] at h2
  exact va_getN hx hb hts hin hown hK.1 hP n h2 hc k hk ((hK.2.1 _ hl).use rfl) (fun _ h => by rw [hd] at h; exact h) (v := .int (gi x q k)) (by rw [fs_at hk]; simp [fv, ho.2, hft]) hdg kk
theorem rgRN (C0 : Cx E A own cc nL rt p s m args meth c) (hP : Wd E ad js x H) {q ci k index N : Nat} {C host : String} {T : u_T} (ho : isO js q ci) (hc : vcl[ci]? = some (C, T, N)) (hci : ci < 20) (hN : nf ci = N) (hin : ∀ w ∈ u_ws C T N, w ∈ gtb) (hk : k < N) (hft : ft ci k = 2) (hd : (T k).1 = C) (hl : Cond.fieldLinkNest own index C (T k).2.1 (T k).2.2.1 host ∈ nst) (hdg : decode cc pc = .ok (.getfield index, 3))
    (kk : W p l e R s m args below meth c H locs cells slots Q (F0 m (pc + 3) ls (.ref (ad (rf q k)) :: rest))) : W p l e R s m args below meth c H locs cells slots Q (F0 m pc ls (.ref (ad q) :: rest)) := by
  obtain ⟨hx, hb, -, -, hown, hts, -, hK⟩ := C0
  obtain ⟨n, -, h2⟩ := wl_at (cA := E.2.1) (ad := ad) (x := x) ho.1
  rw [ent_o ho.2 hci, hN] at h2
  exact va_getN hx hb hts hin hown hK.1 hP n h2 hc k hk ((hK.2.1 _ hl).use rfl) (fun _ h => by rw [hd] at h; exact h) (v := .ref (ad (rf q k))) (by rw [fs_at hk]; simp [fv, ho.2, hft]) hdg kk
theorem rpI (C0 : Cx E A own cc nL rt p s m args meth c) (hap : Ap ad js A) (hP : Wd E ad js x H) (hS : va_S A s.heap H locs) {q ci k index N : Nat} {C : String} {T : u_T} {v : Int32} {G : Nat → FieldType} (ho : isO js q ci) (hc : vcl[ci]? = some (C, T, N)) (hci : ci < 20) (hN : nf ci = N) (hin : ∀ w ∈ u_ws C T N, w ∈ gtb) (hty : ∀ k, k < N → parseFieldDescriptor (T k).2.2.1 = some (G k)) (hnm : ∀ a, a < N → ∀ b, b < N → a ≠ b → (T a).2.1 ≠ (T b).2.1) (hk : k < N) (hft : ft ci k = 0) (hG : G k = .int) (hfin : (T k).2.2.2 = false) (hd : (T k).1 = C) (hl : Cond.fieldLink own index C (T k).2.1 (T k).2.2.1 ∈ gtb) (hdg : decode cc pc = .ok (.putfield index, 3))
    (kk : ∀ H1 locs1, Wd E ad js (si x q k v) H1 → va_S A s.heap H1 locs1 → W p l e R s m args below meth c H1 locs1 cells slots Q (F0 m (pc + 3) ls rest)) : W p l e R s m args below meth c H locs cells slots Q (F0 m pc ls (.int v :: .ref (ad q) :: rest)) := by
  obtain ⟨hx, hb, -, -, hown, hts, -, hK⟩ := C0
  obtain ⟨n, h1, h2⟩ := wl_at (cA := E.2.1) (ad := ad) (x := x) ho.1
  rw [ent_o ho.2 hci, hN] at h2
  refine va_put hx hb hts hin G hty hnm hown hK.1 hP hap.D hS n h2 hc k hk (hts _ hl) (fun _ h => by rw [hd] at h; exact h) hfin (ty := .int) (v := .int v) (by rw [hty k hk, hG]) rfl rfl (by rw [List.length_map, List.length_range]; exact hk) hdg (fun H1 locs1 g1 _ g3 => kk H1 locs1 ?_ g3)
  rw [fs_si (by rw [ho.2]; exact hft), ← hN, ← ent_o (cA := E.2.1) (x := si x q k v) ho.2 hci] at g1
  rw [wl_set hap.1 h1 (fun r hr => ent_si hr)] at g1
  exact g1
theorem rpL (C0 : Cx E A own cc nL rt p s m args meth c) (hap : Ap ad js A) (hP : Wd E ad js x H) (hS : va_S A s.heap H locs) {q ci k index N : Nat} {C : String} {T : u_T} {v : Int64} {G : Nat → FieldType} (ho : isO js q ci) (hc : vcl[ci]? = some (C, T, N)) (hci : ci < 20) (hN : nf ci = N) (hin : ∀ w ∈ u_ws C T N, w ∈ gtb) (hty : ∀ k, k < N → parseFieldDescriptor (T k).2.2.1 = some (G k)) (hnm : ∀ a, a < N → ∀ b, b < N → a ≠ b → (T a).2.1 ≠ (T b).2.1) (hk : k < N) (hft : ft ci k = 1) (hG : G k = .long) (hfin : (T k).2.2.2 = false) (hd : (T k).1 = C) (hl : Cond.fieldLink own index C (T k).2.1 (T k).2.2.1 ∈ gtb) (hdg : decode cc pc = .ok (.putfield index, 3))
    (kk : ∀ H1 locs1, Wd E ad js (sl x q k v) H1 → va_S A s.heap H1 locs1 → W p l e R s m args below meth c H1 locs1 cells slots Q (F0 m (pc + 3) ls rest)) : W p l e R s m args below meth c H locs cells slots Q (F0 m pc ls (.long v :: .ref (ad q) :: rest)) := by
  obtain ⟨hx, hb, -, -, hown, hts, -, hK⟩ := C0
  obtain ⟨n, h1, h2⟩ := wl_at (cA := E.2.1) (ad := ad) (x := x) ho.1
  rw [ent_o ho.2 hci, hN] at h2
  refine va_put hx hb hts hin G hty hnm hown hK.1 hP hap.D hS n h2 hc k hk (hts _ hl) (fun _ h => by rw [hd] at h; exact h) hfin (ty := .long) (v := .long v) (by rw [hty k hk, hG]) rfl rfl (by rw [List.length_map, List.length_range]; exact hk) hdg (fun H1 locs1 g1 _ g3 => kk H1 locs1 ?_ g3)
  rw [fs_sl (by rw [ho.2]; exact hft), ← hN, ← ent_o (cA := E.2.1) (x := sl x q k v) ho.2 hci] at g1
  rw [wl_set hap.1 h1 (fun r hr => ent_sl hr)] at g1
  exact g1
theorem rpIN (C0 : Cx E A own cc nL rt p s m args meth c) (hap : Ap ad js A) (hP : Wd E ad js x H) (hS : va_S A s.heap H locs) {q ci k index N : Nat} {C host : String} {T : u_T} {v : Int32} {G : Nat → FieldType} (ho : isO js q ci) (hc : vcl[ci]? = some (C, T, N)) (hci : ci < 20) (hN : nf ci = N) (hin : ∀ w ∈ u_ws C T N, w ∈ gtb) (hty : ∀ k, k < N → parseFieldDescriptor (T k).2.2.1 = some (G k)) (hnm : ∀ a, a < N → ∀ b, b < N → a ≠ b → (T a).2.1 ≠ (T b).2.1) (hk : k < N) (hft : ft ci k = 0) (hG : G k = .int) (hfin : (T k).2.2.2 = false) (hd : (T k).1 = C) (hl : Cond.fieldLinkNest own index C (T k).2.1 (T k).2.2.1 host ∈ nst) (hdg : decode cc pc = .ok (.putfield index, 3))
    (kk : ∀ H1 locs1, Wd E ad js (si x q k v) H1 → va_S A s.heap H1 locs1 → W p l e R s m args below meth c H1 locs1 cells slots Q (F0 m (pc + 3) ls rest)) : W p l e R s m args below meth c H locs cells slots Q (F0 m pc ls (.int v :: .ref (ad q) :: rest)) := by
  obtain ⟨hx, hb, -, -, hown, hts, -, hK⟩ := C0
  obtain ⟨n, h1, h2⟩ := wl_at (cA := E.2.1) (ad := ad) (x := x) ho.1
  rw [ent_o ho.2 hci, hN] at h2
  refine va_putN hx hb hts hin G hty hnm hown hK.1 hP hap.D hS n h2 hc k hk ((hK.2.1 _ hl).use rfl) (fun _ h => by rw [hd] at h; exact h) hfin (ty := .int) (v := .int v) (by rw [hty k hk, hG]) rfl rfl (by rw [List.length_map, List.length_range]; exact hk) hdg (fun H1 locs1 g1 _ g3 => kk H1 locs1 ?_ g3)
  rw [fs_si (by rw [ho.2]; exact hft), ← hN, ← ent_o (cA := E.2.1) (x := si x q k v) ho.2 hci] at g1
  rw [wl_set hap.1 h1 (fun r hr => ent_si hr)] at g1
  exact g1
theorem raI (C0 : Cx E A own cc nL rt p s m args meth c) (hP : Wd E ad js x H) {q : Nat} (ho : isO js q 20) {i : Int32} (hi : ixb i (ln q) = true) (hdg : decode cc pc = .ok (.iaload, 1))
    (kk : W p l e R s m args below meth c H locs cells slots Q (F0 m (pc + 1) ls (.int (gi x q (ix i)) :: rest))) : W p l e R s m args below meth c H locs cells slots Q (F0 m pc ls (.int i :: .ref (ad q) :: rest)) := by
  obtain ⟨hx, hb, -, -, hown, hts, -, hK⟩ := C0
  obtain ⟨n, -, h2⟩ := wl_at (cA := E.2.1) (ad := ad) (x := x) ho.1
  rw [ent_20 ho.2] at h2
  exact va_iald hx hb hK.1 hP n 0 h2 rfl (ixb_in hi) hdg kk
theorem raB (C0 : Cx E A own cc nL rt p s m args meth c) (hP : Wd E ad js x H) {q : Nat} (ho : isO js q 21) {i : Int32} (hi : ixb i (ln q) = true) (hdg : decode cc pc = .ok (.baload, 1))
    (kk : W p l e R s m args below meth c H locs cells slots Q (F0 m (pc + 1) ls (.int (gi x q (ix i)) :: rest))) : W p l e R s m args below meth c H locs cells slots Q (F0 m pc ls (.int i :: .ref (ad q) :: rest)) := by
  obtain ⟨hx, hb, -, -, hown, hts, -, hK⟩ := C0
  obtain ⟨n, -, h2⟩ := wl_at (cA := E.2.1) (ad := ad) (x := x) ho.1
  rw [ent_21 ho.2] at h2
  exact va_bald hx hb hK.1 hP n 1 h2 rfl (ixb_in hi) hdg kk
theorem raZ (C0 : Cx E A own cc nL rt p s m args meth c) (hP : Wd E ad js x H) {q : Nat} (ho : isO js q 22) {i : Int32} (hi : ixb i (ln q) = true) (hdg : decode cc pc = .ok (.baload, 1))
    (kk : W p l e R s m args below meth c H locs cells slots Q (F0 m (pc + 1) ls (.int (gi x q (ix i)) :: rest))) : W p l e R s m args below meth c H locs cells slots Q (F0 m pc ls (.int i :: .ref (ad q) :: rest)) := by
  obtain ⟨hx, hb, -, -, hown, hts, -, hK⟩ := C0
  obtain ⟨n, -, h2⟩ := wl_at (cA := E.2.1) (ad := ad) (x := x) ho.1
  rw [ent_22 ho.2] at h2
  exact va_zald hx hb hK.1 hP n 2 h2 rfl (ixb_in hi) hdg kk
theorem raL (C0 : Cx E A own cc nL rt p s m args meth c) (hP : Wd E ad js x H) {q : Nat} (ho : isO js q 23) {i : Int32} (hi : ixb i (ln q) = true) (hdg : decode cc pc = .ok (.laload, 1))
    (kk : W p l e R s m args below meth c H locs cells slots Q (F0 m (pc + 1) ls (.long (gl x q (ix i)) :: rest))) : W p l e R s m args below meth c H locs cells slots Q (F0 m pc ls (.int i :: .ref (ad q) :: rest)) := by
  obtain ⟨hx, hb, -, -, hown, hts, -, hK⟩ := C0
  obtain ⟨n, -, h2⟩ := wl_at (cA := E.2.1) (ad := ad) (x := x) ho.1
  rw [ent_23 ho.2] at h2
  exact va_lald hx hb hK.1 hP n 3 h2 rfl (ixb_in hi) hdg kk
theorem raS (C0 : Cx E A own cc nL rt p s m args meth c) (hP : Wd E ad js x H) {q : Nat} (ho : isO js q 24) {i : Int32} (hi : ixb i (ln q) = true) (hdg : decode cc pc = .ok (.aaload, 1))
    (kk : W p l e R s m args below meth c H locs cells slots Q (F0 m (pc + 1) ls (.ref (ad (rf q (ix i))) :: rest))) : W p l e R s m args below meth c H locs cells slots Q (F0 m pc ls (.int i :: .ref (ad q) :: rest)) := by
  obtain ⟨hx, hb, -, -, hown, hts, -, hK⟩ := C0
  obtain ⟨n, -, h2⟩ := wl_at (cA := E.2.1) (ad := ad) (x := x) ho.1
  rw [ent_24 ho.2] at h2
  exact va_aldq hx hb hK.1 hP n 4 h2 rfl (ixb_in hi) hdg kk
theorem raA (C0 : Cx E A own cc nL rt p s m args meth c) (hP : Wd E ad js x H) {q : Nat} (ho : isO js q 25) {i : Int32} (hi : ixb i (ln q) = true) (hdg : decode cc pc = .ok (.aaload, 1))
    (kk : W p l e R s m args below meth c H locs cells slots Q (F0 m (pc + 1) ls (.ref (ad (rf q (ix i))) :: rest))) : W p l e R s m args below meth c H locs cells slots Q (F0 m pc ls (.int i :: .ref (ad q) :: rest)) := by
  obtain ⟨hx, hb, -, -, hown, hts, -, hK⟩ := C0
  obtain ⟨n, -, h2⟩ := wl_at (cA := E.2.1) (ad := ad) (x := x) ho.1
  rw [ent_25 ho.2] at h2
  have hin := ixb_in hi
  have hlt : i.toNatClampNeg < ln q := Nat.not_le.mp fun z => hin (Or.inr z)
  exact W.aald (v := .ref (ad (rf q (ix i)))) (ty := .array .int) hx hb (hP n _ h2) ((hK.1.2 5 _ rfl).1 (ln q) (fun j => va_rf (some (ad (rf q j))))) rfl (fun z => by cases z) (by show ¬ (i < 0 ∨ (arrV _ _ _).slots.size ≤ _); rw [arrV_size]; exact hin) (by show (arrV _ _ _).slots[_]? = _; rw [arrV_read _ _ hlt]; rfl) rfl rfl hdg kk
theorem rlen (C0 : Cx E A own cc nL rt p s m args meth c) (hP : Wd E ad js x H) {q : Nat} (ho : isO js q 20) (hdg : decode cc pc = .ok (.arraylength, 1))
    (kk : W p l e R s m args below meth c H locs cells slots Q (F0 m (pc + 1) ls (.int (Int32.ofNat (ln q)) :: rest))) : W p l e R s m args below meth c H locs cells slots Q (F0 m pc ls (.ref (ad q) :: rest)) := by
  obtain ⟨hx, hb, -, -, hown, hts, -, hK⟩ := C0
  obtain ⟨n, -, h2⟩ := wl_at (cA := E.2.1) (ad := ad) (x := x) ho.1
  rw [ent_20 ho.2] at h2
  exact va_alen hx hb hK.1 hP n 0 h2 (ty := .int) rfl rfl hdg kk
theorem rlenL (C0 : Cx E A own cc nL rt p s m args meth c) (hP : Wd E ad js x H) {q : Nat} (ho : isO js q 23) (hdg : decode cc pc = .ok (.arraylength, 1))
    (kk : W p l e R s m args below meth c H locs cells slots Q (F0 m (pc + 1) ls (.int (Int32.ofNat (ln q)) :: rest))) : W p l e R s m args below meth c H locs cells slots Q (F0 m pc ls (.ref (ad q) :: rest)) := by
  obtain ⟨hx, hb, -, -, hown, hts, -, hK⟩ := C0
  obtain ⟨n, -, h2⟩ := wl_at (cA := E.2.1) (ad := ad) (x := x) ho.1
  rw [ent_23 ho.2] at h2
  exact va_alen hx hb hK.1 hP n 3 h2 (ty := .long) rfl rfl hdg kk
theorem rsI (C0 : Cx E A own cc nL rt p s m args meth c) (hap : Ap ad js A) (hP : Wd E ad js x H) (hS : va_S A s.heap H locs) {q : Nat} (ho : isO js q 20) {i v : Int32} (hi : ixb i (ln q) = true) (hdg : decode cc pc = .ok (.iastore, 1))
    (kk : ∀ H1 locs1, Wd E ad js (si x q (ix i) v) H1 → va_S A s.heap H1 locs1 → W p l e R s m args below meth c H1 locs1 cells slots Q (F0 m (pc + 1) ls rest)) : W p l e R s m args below meth c H locs cells slots Q (F0 m pc ls (.int v :: .int i :: .ref (ad q) :: rest)) := by
  obtain ⟨hx, hb, -, -, hown, hts, -, hK⟩ := C0
  obtain ⟨n, h1, h2⟩ := wl_at (cA := E.2.1) (ad := ad) (x := x) ho.1
  rw [ent_20 ho.2] at h2
  refine va_iast hx hb hK.1 hP hap.D hS n 0 h2 rfl (ixb_in hi) hdg (fun H1 locs1 g1 _ g3 => kk H1 locs1 ?_ g3)
  rw [← gi_row, ← ent_20 (cA := E.2.1) (ad := ad) ho.2, wl_set hap.1 h1 (fun r hr => ent_si hr)] at g1
  exact g1
theorem rsB (C0 : Cx E A own cc nL rt p s m args meth c) (hap : Ap ad js A) (hP : Wd E ad js x H) (hS : va_S A s.heap H locs) {q : Nat} (ho : isO js q 21) {i v : Int32} (hi : ixb i (ln q) = true) (hdg : decode cc pc = .ok (.bastore, 1))
    (kk : ∀ H1 locs1, Wd E ad js (si x q (ix i) (vp_nar .byte v)) H1 → va_S A s.heap H1 locs1 → W p l e R s m args below meth c H1 locs1 cells slots Q (F0 m (pc + 1) ls rest)) : W p l e R s m args below meth c H locs cells slots Q (F0 m pc ls (.int v :: .int i :: .ref (ad q) :: rest)) := by
  obtain ⟨hx, hb, -, -, hown, hts, -, hK⟩ := C0
  obtain ⟨n, h1, h2⟩ := wl_at (cA := E.2.1) (ad := ad) (x := x) ho.1
  rw [ent_21 ho.2] at h2
  refine va_bast hx hb hK.1 hP hap.D hS n 1 h2 rfl (ixb_in hi) hdg (fun H1 locs1 g1 _ g3 => kk H1 locs1 ?_ g3)
  rw [← gi_row, ← ent_21 (cA := E.2.1) (ad := ad) ho.2, wl_set hap.1 h1 (fun r hr => ent_si hr)] at g1
  exact g1
theorem rsZ (C0 : Cx E A own cc nL rt p s m args meth c) (hap : Ap ad js A) (hP : Wd E ad js x H) (hS : va_S A s.heap H locs) {q : Nat} (ho : isO js q 22) {i v : Int32} (hi : ixb i (ln q) = true) (hdg : decode cc pc = .ok (.bastore, 1))
    (kk : ∀ H1 locs1, Wd E ad js (si x q (ix i) (vp_nar .boolean v)) H1 → va_S A s.heap H1 locs1 → W p l e R s m args below meth c H1 locs1 cells slots Q (F0 m (pc + 1) ls rest)) : W p l e R s m args below meth c H locs cells slots Q (F0 m pc ls (.int v :: .int i :: .ref (ad q) :: rest)) := by
  obtain ⟨hx, hb, -, -, hown, hts, -, hK⟩ := C0
  obtain ⟨n, h1, h2⟩ := wl_at (cA := E.2.1) (ad := ad) (x := x) ho.1
  rw [ent_22 ho.2] at h2
  refine va_zast hx hb hK.1 hP hap.D hS n 2 h2 rfl (ixb_in hi) hdg (fun H1 locs1 g1 _ g3 => kk H1 locs1 ?_ g3)
  rw [← gi_row, ← ent_22 (cA := E.2.1) (ad := ad) ho.2, wl_set hap.1 h1 (fun r hr => ent_si hr)] at g1
  exact g1
theorem rsL (C0 : Cx E A own cc nL rt p s m args meth c) (hap : Ap ad js A) (hP : Wd E ad js x H) (hS : va_S A s.heap H locs) {q : Nat} (ho : isO js q 23) {i : Int32} {v : Int64} (hi : ixb i (ln q) = true) (hdg : decode cc pc = .ok (.lastore, 1))
    (kk : ∀ H1 locs1, Wd E ad js (sl x q (ix i) v) H1 → va_S A s.heap H1 locs1 → W p l e R s m args below meth c H1 locs1 cells slots Q (F0 m (pc + 1) ls rest)) : W p l e R s m args below meth c H locs cells slots Q (F0 m pc ls (.long v :: .int i :: .ref (ad q) :: rest)) := by
  obtain ⟨hx, hb, -, -, hown, hts, -, hK⟩ := C0
  obtain ⟨n, h1, h2⟩ := wl_at (cA := E.2.1) (ad := ad) (x := x) ho.1
  rw [ent_23 ho.2] at h2
  refine va_last hx hb hK.1 hP hap.D hS n 3 h2 rfl (ixb_in hi) hdg (fun H1 locs1 g1 _ g3 => kk H1 locs1 ?_ g3)
  rw [← gl_row, ← ent_23 (cA := E.2.1) (ad := ad) ho.2, wl_set hap.1 h1 (fun r hr => ent_sl hr)] at g1
  exact g1
theorem rcpI (C0 : Cx E A own cc nL rt p s m args meth c) (hap : Ap ad js A) (hP : Wd E ad js x H) (hS : va_S A s.heap H locs) {q d index : Nat} (ho : isO js q 20) (ho2 : isO js d 20) {sp dp n : Int32} (h1 : spb sp n (ln q) = true) (h2 : spb dp n (ln d) = true) (hls : ls.size = nL) (hl : Cond.methodLink own index arraycopyName ∈ gtb) (hn : Cond.native arraycopyName ∈ gtb) (hst : Cond.static arraycopyName ∈ gtb) (hi : Cond.initialized "java/lang/System" ∈ gtb)
    (hframes : 1 ≤ R.frames) (hlocals : (rest.map fun v => v.category).sum + (nativeFrameWords "java/lang/System" "arraycopy" 5 + 11) ≤ R.locals) (hdg : decode cc pc = .ok (.invokestatic index, 3))
    (kk : ∀ H1 locs1, Wd E ad js (cpi x q (ix sp) d (ix dp) (ix n)) H1 → va_S A s.heap H1 locs1 → W p l e R s m args below meth c H1 locs1 cells slots Q (F0 m (pc + 3) ls rest)) : W p l e R s m args below meth c H locs cells slots Q (F0 m pc ls (.int n :: .int dp :: .ref (ad d) :: .int sp :: .ref (ad q) :: rest)) := by
  obtain ⟨hx, hb, hml, -, hown, hts, -, hK⟩ := C0
  obtain ⟨n1, g1, g2⟩ := wl_at (cA := E.2.1) (ad := ad) (x := x) ho.1
  obtain ⟨n2, k1, k2⟩ := wl_at (cA := E.2.1) (ad := ad) (x := x) ho2.1
  rw [ent_20 ho.2] at g2
  rw [ent_20 ho2.2] at k2
  obtain ⟨a1, a2, a3⟩ := spb_in h1
  obtain ⟨b1, b2, b3⟩ := spb_in h2
  refine va_copyi hx hb (hml.trans hls.symm) hown (hts _ hl) (hts _ hn) (hts _ hst) (hts _ hi) hK.1 hP hap.D hS n1 n2 0 0 g2 k2 (ty := .int) rfl rfl rfl a1 b1 a2 a3 b3 (fun _ _ => rfl) hframes hlocals hdg (fun H1 locs1 z1 _ z3 => kk H1 locs1 ?_ z3)
  rw [← gi_cprow, ← ent_20 (cA := E.2.1) (ad := ad) ho2.2, wl_set hap.1 k1 (fun r hr => ent_cpi hr)] at z1
  exact z1
theorem rcpL (C0 : Cx E A own cc nL rt p s m args meth c) (hap : Ap ad js A) (hP : Wd E ad js x H) (hS : va_S A s.heap H locs) {q d index : Nat} (ho : isO js q 23) (ho2 : isO js d 23) {sp dp n : Int32} (h1 : spb sp n (ln q) = true) (h2 : spb dp n (ln d) = true) (hls : ls.size = nL) (hl : Cond.methodLink own index arraycopyName ∈ gtb) (hn : Cond.native arraycopyName ∈ gtb) (hst : Cond.static arraycopyName ∈ gtb) (hi : Cond.initialized "java/lang/System" ∈ gtb)
    (hframes : 1 ≤ R.frames) (hlocals : (rest.map fun v => v.category).sum + (nativeFrameWords "java/lang/System" "arraycopy" 5 + 11) ≤ R.locals) (hdg : decode cc pc = .ok (.invokestatic index, 3))
    (kk : ∀ H1 locs1, Wd E ad js (cpl x q (ix sp) d (ix dp) (ix n)) H1 → va_S A s.heap H1 locs1 → W p l e R s m args below meth c H1 locs1 cells slots Q (F0 m (pc + 3) ls rest)) : W p l e R s m args below meth c H locs cells slots Q (F0 m pc ls (.int n :: .int dp :: .ref (ad d) :: .int sp :: .ref (ad q) :: rest)) := by
  obtain ⟨hx, hb, hml, -, hown, hts, -, hK⟩ := C0
  obtain ⟨n1, g1, g2⟩ := wl_at (cA := E.2.1) (ad := ad) (x := x) ho.1
  obtain ⟨n2, k1, k2⟩ := wl_at (cA := E.2.1) (ad := ad) (x := x) ho2.1
  rw [ent_23 ho.2] at g2
  rw [ent_23 ho2.2] at k2
  obtain ⟨a1, a2, a3⟩ := spb_in h1
  obtain ⟨b1, b2, b3⟩ := spb_in h2
  refine va_copyl hx hb (hml.trans hls.symm) hown (hts _ hl) (hts _ hn) (hts _ hst) (hts _ hi) hK.1 hP hap.D hS n1 n2 3 3 g2 k2 (ty := .long) rfl rfl rfl a1 b1 a2 a3 b3 (fun _ _ => rfl) hframes hlocals hdg (fun H1 locs1 z1 _ z3 => kk H1 locs1 ?_ z3)
  rw [← gl_cprow, ← ent_23 (cA := E.2.1) (ad := ad) ho2.2, wl_set hap.1 k1 (fun r hr => ent_cpl hr)] at z1
  exact z1
/-- a reference, or null, of a local -/
theorem raQn {k : Fin 4} {i : Nat} {o : Option Nat} (hexec : p.tables.exec = Jvm.exec) (hb : c.code = cc) (hdg : decode cc pc = .ok (.aload_n k, 1)) (hi : (k : Nat) = i) (hl : ls[i]? = some (.val (va_re ad o)))
    (kk : W p l e R s m args below meth c H locs cells slots Q (F0 m (pc + 1) ls (va_re ad o :: rest))) : W p l e R s m args below meth c H locs cells slots Q (F0 m pc ls rest) := by
  cases o with
  | none => exact lv_aload_nN hexec hb hdg hi hl kk
  | some q => exact lv_aload_n hexec hb hdg hi hl kk
theorem raQ {i : Nat} {o : Option Nat} (hexec : p.tables.exec = Jvm.exec) (hb : c.code = cc) (hdg : decode cc pc = .ok (.aload i, 2)) (hl : ls[i]? = some (.val (va_re ad o)))
    (kk : W p l e R s m args below meth c H locs cells slots Q (F0 m (pc + 2) ls (va_re ad o :: rest))) : W p l e R s m args below meth c H locs cells slots Q (F0 m pc ls rest) := by
  cases o with
  | none => exact lv_aloadN hexec hb hdg hl kk
  | some q => exact lv_aload hexec hb hdg hl kk
theorem rqS {i nL' : Nat} {o : Option Nat} {lv lv' : List (Nat × Value)} (hexec : p.tables.exec = Jvm.exec) (hb : c.code = cc) (hdg : decode cc pc = .ok (.astore i, 2)) (h : lv_has ls nL' lv) (hn : i < nL') (hl : (i, va_re ad o) :: lv.filter (fun q => !(q.1 == i) && !(q.1 + 1 == i && q.2.category == 2)) = lv')
    (kk : ∀ ls' : Array Slot, lv_has ls' nL' lv' → W p l e R s m args below meth c H locs cells slots Q (F0 m (pc + 2) ls' rest)) : W p l e R s m args below meth c H locs cells slots Q (F0 m pc ls (va_re ad o :: rest)) := by
  cases o with
  | none => exact lv_astoreN hexec hb hdg h hn hl kk
  | some q => exact lv_astore hexec hb hdg h hn hl kk
/-! calls -/
theorem rc0 {mc ms : Nat} {st0 : List Value} {rv : Option Value} {x' : St} {a : Array Value} (hr : va_Run p l e R s m args below meth c H locs cells slots mc ms (F0 m pc ls st0) rest (QX E ad js A rv x' a) A) (hS : va_S A s.heap H locs)
    (kk : ∀ H1 locs1, Wd E ad js x' H1 → H.size ≤ H1.size → (∀ q : Nat, q < H.size → ¬ A q → H1[q]? = H[q]?) → va_S A s.heap H1 locs1 → W p l e R s m args below meth c H1 locs1 (cells + mc) (slots + ms) Q (F0 m (pc + 3) ls (rv.toList ++ rest))) : W p l e R s m args below meth c H locs cells slots Q (F0 m pc ls st0) := by
  intro T hT X
  obtain ⟨v, st₀, t, T', L, h0, X', hL, e1, e2, ⟨⟨hv, hp⟩, hz, hk⟩, st⟩ := hr T hT X
  cases hv
  rw [h0] at hz hk
  obtain ⟨t2, a1, b1⟩ := kk T'.heap (locs ++ L) (by rw [e1]; exact hp) (by rw [e1]; exact hz) (fun q h1 h2 => by rw [e1]; exact hk q h1 h2)
    ⟨Nat.le_trans hS.1 (by rw [e1]; exact hz), fun q h1 h2 => by rw [e1, hk q (Nat.lt_of_lt_of_le h1 hS.1) h2]; exact hS.2.1 q h1 h2, fun q hq => by
      rcases List.mem_append.mp hq with h | h
      · exact hS.2.2 q h
      · exact hL q h⟩ T' rfl X'
  exact ⟨t2, st t2 a1, b1⟩
theorem good_call {w : Cond} (h : w ∈ gtb) : GoodIn gtb (w :: gtb) := by
  intro z hz
  have hm : z ∈ gtb := (List.mem_cons.mp hz).elim (fun e => e ▸ h) (fun q => q)
  exact ⟨hm, good_of_word (List.mem_filter.mp hm).2⟩
theorem PB.blind {av : List Value} : FrameBlind (va_Pc av (PB E A ad js x)) := by
  intro a U g mk h
  exact ⟨h.1, h.2.1, h.2.2.same rfl rfl⟩
theorem rcV {y : MethodName} {b : ByteArray} {mL n index N ci q : Nat} {ret : Option FieldType} {rm : Room} {As st0 : List Value} {rv : Option Value} {x' : St} {C : String} {T : u_T} (C0 : Cx E A own cc nL rt p s m args meth c)
    (hM : Met l y (Cond.code y b mL ret :: gtb) rm (va_Pc (.ref (ad q) :: As) (PB E A ad js x)) (QX E ad js A rv x') 0 0 A) (hP : Wd E ad js x H) (hS : va_S A s.heap H locs) (ho : isO js q ci) (hc : vcl[ci]? = some (C, T, N)) (hci : ci < 20)
    (hwc : Cond.code y b mL ret ∈ gtb) (hwl : Cond.methodLink own index y ∈ gtb) (hwi : Cond.instanceMethod y ∈ gtb) (hws : Cond.selects C y y ∈ gtb) (hwn : Cond.initialized y.cls ∈ gtb) (hrc : rm.cells = 0) (hrs : rm.slots = 0) (hd : y.cls ≠ "java/lang/invoke/MethodHandle" ∧ y.cls ≠ "java/lang/invoke/VarHandle" ∧ (parseMethodDescriptor y.desc).map (fun d => d.parameters.length) = some n) (hn : As.length = n)
    (hR : rm.frames + 1 ≤ R.frames ∧ 8 + (mL + 11) + rm.locals ≤ R.locals) (hls : ls.size = nL) (hst : st0 = As.reverse ++ .ref (ad q) :: rest) (hroom : (rest.map fun v => v.category).sum ≤ 8) (hdg : decode cc pc = .ok (.invokevirtual index, 3)) (hf : cells ≤ R.cells ∧ slots ≤ R.slots)
    (kk : ∀ H1 locs1, Wd E ad js x' H1 → H.size ≤ H1.size → (∀ q : Nat, q < H.size → ¬ A q → H1[q]? = H[q]?) → va_S A s.heap H1 locs1 → W p l e R s m args below meth c H1 locs1 cells slots Q (F0 m (pc + 3) ls (rv.toList ++ rest))) : W p l e R s m args below meth c H locs cells slots Q (F0 m pc ls st0) := by
  obtain ⟨hx, hb, hml, -, hown, hts, -, hK⟩ := id C0
  obtain ⟨k0, -, h2⟩ := wl_at (cA := E.2.1) (ad := ad) (x := x) ho.1
  rw [ent_o ho.2 hci] at h2
  exact rc0 (rest := rest) (va_runV (As := As) (C := C) (n := n) (bytes := b) (maxL := mL) (ret := ret) ⟨hx, hb, hml, hown, hts⟩ hM ⟨callB_of n hts (good_call hwc) rfl hrc hrs (hts _ hwn) (hts _ hwl) hd hR, hts _ hwi, hts _ hws⟩ ⟨PB.blind, va_recv (q := (C, T, N)) hK.1 hP hc h2, fun U hU hW => ⟨rfl, by rw [hU]; exact hP, hK.to hS hU hW⟩⟩ rfl hn hls hst (lv_room hroom) hdg hf) hS kk
theorem rcS {y : MethodName} {b : ByteArray} {mL n index : Nat} {ret : Option FieldType} {rm : Room} {As st0 : List Value} {rv : Option Value} {x' : St} (C0 : Cx E A own cc nL rt p s m args meth c)
    (hM : Met l y (Cond.code y b mL ret :: gtb) rm (va_Pc As (PB E A ad js x)) (QX E ad js A rv x') 0 0 A) (hP : Wd E ad js x H) (hS : va_S A s.heap H locs)
    (hwc : Cond.code y b mL ret ∈ gtb) (hwl : Cond.methodLink own index y ∈ gtb) (hwi : Cond.static y ∈ gtb) (hwn : Cond.initialized y.cls ∈ gtb) (hrc : rm.cells = 0) (hrs : rm.slots = 0) (hd : y.cls ≠ "java/lang/invoke/MethodHandle" ∧ y.cls ≠ "java/lang/invoke/VarHandle" ∧ (parseMethodDescriptor y.desc).map (fun d => d.parameters.length) = some n) (hn : As.length = n)
    (hR : rm.frames + 1 ≤ R.frames ∧ 8 + (mL + 11) + rm.locals ≤ R.locals) (hls : ls.size = nL) (hst : st0 = As.reverse ++ rest) (hroom : (rest.map fun v => v.category).sum ≤ 8) (hdg : decode cc pc = .ok (.invokestatic index, 3)) (hf : cells ≤ R.cells ∧ slots ≤ R.slots)
    (kk : ∀ H1 locs1, Wd E ad js x' H1 → H.size ≤ H1.size → (∀ q : Nat, q < H.size → ¬ A q → H1[q]? = H[q]?) → va_S A s.heap H1 locs1 → W p l e R s m args below meth c H1 locs1 cells slots Q (F0 m (pc + 3) ls (rv.toList ++ rest))) : W p l e R s m args below meth c H locs cells slots Q (F0 m pc ls st0) := by
  obtain ⟨hx, hb, hml, -, hown, hts, -, hK⟩ := id C0
  exact rc0 (rest := rest) (va_runS (As := As) (n := n) (bytes := b) (maxL := mL) (ret := ret) ⟨hx, hb, hml, hown, hts⟩ hM ⟨callB_of n hts (good_call hwc) rfl hrc hrs (hts _ hwn) (hts _ hwl) hd hR, hts _ hwi⟩ ⟨PB.blind, fun U hU hW => ⟨rfl, by rw [hU]; exact hP, hK.to hS hU hW⟩⟩ rfl hn hls hst (lv_room hroom) hdg hf) hS kk
theorem rcSN {y : MethodName} {b : ByteArray} {mL n index : Nat} {host : String} {ret : Option FieldType} {rm : Room} {As st0 : List Value} {rv : Option Value} {x' : St} (C0 : Cx E A own cc nL rt p s m args meth c)
    (hM : Met l y (Cond.code y b mL ret :: gtb) rm (va_Pc As (PB E A ad js x)) (QX E ad js A rv x') 0 0 A) (hP : Wd E ad js x H) (hS : va_S A s.heap H locs)
    (hwc : Cond.code y b mL ret ∈ gtb) (hwl : Cond.methodLinkNest own index y host ∈ nst) (hwi : Cond.static y ∈ gtb) (hwn : Cond.initialized y.cls ∈ gtb) (hrc : rm.cells = 0) (hrs : rm.slots = 0) (hd : y.cls ≠ "java/lang/invoke/MethodHandle" ∧ y.cls ≠ "java/lang/invoke/VarHandle" ∧ (parseMethodDescriptor y.desc).map (fun d => d.parameters.length) = some n) (hn : As.length = n)
    (hR : rm.frames + 1 ≤ R.frames ∧ 8 + (mL + 11) + rm.locals ≤ R.locals) (hls : ls.size = nL) (hst : st0 = As.reverse ++ rest) (hroom : (rest.map fun v => v.category).sum ≤ 8) (hdg : decode cc pc = .ok (.invokestatic index, 3)) (hf : cells ≤ R.cells ∧ slots ≤ R.slots)
    (kk : ∀ H1 locs1, Wd E ad js x' H1 → H.size ≤ H1.size → (∀ q : Nat, q < H.size → ¬ A q → H1[q]? = H[q]?) → va_S A s.heap H1 locs1 → W p l e R s m args below meth c H1 locs1 cells slots Q (F0 m (pc + 3) ls (rv.toList ++ rest))) : W p l e R s m args below meth c H locs cells slots Q (F0 m pc ls st0) := by
  obtain ⟨hx, hb, hml, -, hown, hts, -, hK⟩ := id C0
  exact rc0 (rest := rest) (va_runSN (As := As) (n := n) (bytes := b) (maxL := mL) (ret := ret) (host := host) ⟨hx, hb, hml, hown, hts⟩ hM ⟨va_cnB n hts (good_call hwc) rfl hrc hrs (hK.2.1 _ hwl) (hts _ hwn) hd hR, hts _ hwi, trivial⟩ ⟨PB.blind, fun U hU hW => ⟨rfl, by rw [hU]; exact hP, hK.to hS hU hW⟩⟩ rfl hn hls hst (lv_room hroom) hdg hf) hS kk
/-! returns -/
theorem rrI (C0 : Cx E A own cc nL (some .int) p s m args meth c) (hP : Wd E ad js x H) (hS : va_S A s.heap H locs) {v r : Int32} {x' : St} (hdg : decode cc pc = .ok (.ireturn, 1)) (hf : some (v, x) = some (r, x')) : W p l e R s m args below meth c H locs cells slots (MQ below (QX E ad js A (some (.int r)) x') args s cells slots A) (F0 m pc ls [.int v]) := by
  obtain ⟨rfl, rfl⟩ := of_ret hf
  obtain ⟨hx, hb, -, hr, -, -, hlk, -⟩ := C0
  exact W.iret hx hb hr (fun t ht _ => ⟨⟨rfl, by rw [ht]; exact hP⟩, hS.F ht⟩) hS.2.2 hdg hlk
theorem rrZ (C0 : Cx E A own cc nL (some .boolean) p s m args meth c) (hP : Wd E ad js x H) (hS : va_S A s.heap H locs) {v r : Int32} {x' : St} (hz : v = 0 ∨ v = 1) (hdg : decode cc pc = .ok (.ireturn, 1)) (hf : some (v, x) = some (r, x')) : W p l e R s m args below meth c H locs cells slots (MQ below (QX E ad js A (some (.int r)) x') args s cells slots A) (F0 m pc ls [.int v]) := by
  obtain ⟨rfl, rfl⟩ := of_ret hf
  obtain ⟨hx, hb, -, hr, -, -, hlk, -⟩ := C0
  exact W.zret hx hb hr (by rcases hz with rfl | rfl <;> rfl) (fun t ht _ => ⟨⟨rfl, by rw [ht]; exact hP⟩, hS.F ht⟩) hS.2.2 hdg hlk
theorem rrL (C0 : Cx E A own cc nL (some .long) p s m args meth c) (hP : Wd E ad js x H) (hS : va_S A s.heap H locs) {v r : Int64} {x' : St} (hdg : decode cc pc = .ok (.lreturn, 1)) (hf : some (v, x) = some (r, x')) : W p l e R s m args below meth c H locs cells slots (MQ below (QX E ad js A (some (.long r)) x') args s cells slots A) (F0 m pc ls [.long v]) := by
  obtain ⟨rfl, rfl⟩ := of_ret hf
  obtain ⟨hx, hb, -, hr, -, -, hlk, -⟩ := C0
  exact W.lret hx hb hr (fun t ht _ => ⟨⟨rfl, by rw [ht]; exact hP⟩, hS.F ht⟩) hS.2.2 hdg hlk
theorem rrV (C0 : Cx E A own cc nL none p s m args meth c) (hP : Wd E ad js x H) (hS : va_S A s.heap H locs) {v r : Unit} {x' : St} (hdg : decode cc pc = .ok (.return_, 1)) (hf : some (v, x) = some (r, x')) : W p l e R s m args below meth c H locs cells slots (MQ below (QX E ad js A none x') args s cells slots A) (F0 m pc ls []) := by
  obtain ⟨rfl, rfl⟩ := of_ret hf
  obtain ⟨hx, hb, -, hr, -, -, hlk, -⟩ := C0
  exact W.vret hx hb hr (fun t ht _ => ⟨⟨rfl, by rw [ht]; exact hP⟩, hS.F ht⟩) hS.2.2 hdg hlk
theorem rrQ (C0 : Cx E A own cc nL (some (.array .int)) p s m args meth c) (hP : Wd E ad js x H) (hS : va_S A s.heap H locs) {v r : Option Nat} {x' : St} (hdg : decode cc pc = .ok (.areturn, 1)) (hf : some (v, x) = some (r, x')) : W p l e R s m args below meth c H locs cells slots (MQ below (QX E ad js A (some (va_re ad r)) x') args s cells slots A) (F0 m pc ls [va_re ad v]) := by
  obtain ⟨rfl, rfl⟩ := of_ret hf
  obtain ⟨hx, hb, -, hr, -, -, hlk, -⟩ := C0
  exact W.aret hx hb hr (Or.inr ⟨_, rfl⟩) (by cases v with | none => exact Or.inl rfl | some q => exact Or.inr ⟨_, rfl⟩) (fun t ht _ => ⟨⟨rfl, by rw [ht]; exact hP⟩, hS.F ht⟩) hS.2.2 hdg hlk
end Rows
/-- a method's entry: the context, the locals -/
theorem enter {l : Launch} {y : MethodName} {b : ByteArray} {mL : Nat} {ret : Option FieldType} {rm : Room} {E : Ev} {A : Nat → Prop} {ad : Nat → Nat} {js : List Nat} {x : St} {av : List Value} {Qc : Array Value → State → Outcome → State → Prop} (hy : plainName y.cls = true) (hlen : (lg_sl av).length ≤ mL)
    (body : ∀ (p : Program) (e : Env) (s : State) (m : MethodId) (below : List Frame) (meth : Method) (c : Code) (ls : Array Slot), Cx E A y.cls b mL ret p s m av.toArray meth c → Wd E ad js x s.heap → va_S A s.heap s.heap [] → lv_has ls mL (lv_args 0 av) →
      W p l e rm s m av.toArray below meth c s.heap [] 0 0 (MQ below Qc av.toArray s 0 0 A) (F0 m 0 ls [])) : Met l y (Cond.code y b mL ret :: gtb) rm (va_Pc av (PB E A ad js x)) Qc 0 0 A := by
  refine Met.ofW (cc := b) (maxL := mL) (ret := ret) hy rfl ?_
  intro p e s m args below meth c s₁ B hml hv
  obtain ⟨rfl, hP, hK⟩ := hv
  have hts := atoms_spec (ws := Cond.code y b mL ret :: gtb) B.pre
  have hl := lv_entry av (n := mL) hlen
  rw [lg_entry_eq]
  exact body p e s m below meth c _ ⟨B.exec, B.bytes, hml, B.returns, findClass_of_methodNamed B.named, fun w hw => hts w (List.mem_cons_of_mem _ hw), B.notSynchronized, hK⟩ hP va_S.rf hl
