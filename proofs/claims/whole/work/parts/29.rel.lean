/-! both sides, side by side -/
def reg (x : St) (b : Nat) : Nat → Int32 := fun k => gi x 101 (b + k)
def Rel (c m : St) : Prop :=
  (gi c 0 8 = gi m 103 0 ∧ gi c 0 9 = gi m 103 1 ∧ gi c 0 10 = gi m 103 2) ∧
  (gl c 0 6 = gl m 100 4 ∧ gl c 0 7 = gl m 100 5) ∧
  (gi m 100 1 = 0 ∧ gi m 100 13 = -1) ∧
  (gi c 3 1 = gi m 100 7 ∧ rg 250 (gi m 100 7) ∧ ∀ i, i < ix (gi m 100 7) → gi c 4 i = gi m 104 i &&& 255) ∧
  (∀ i, i < 2 → gi c 2 i = gi m 102 i) ∧
  (LC c 36 ∧ LC c 56 ∧ LC c 76) ∧
  (InvG (reg m 0) ∧ RS c 16 (reg m 0)) ∧
  (∀ i, i < 2 → ¬ gi m 102 i = 0 → InvG (reg m (315 * (1 + i))) ∧ RS c (36 + 20 * i) (reg m (315 * (1 + i))))
def Sim {α : Type} (a b : Option (α × St)) : Prop := ∃ r yC yM, a = some (r, yC) ∧ b = some (r, yM) ∧ Rel yC yM
theorem Rel_MV {c m : St} (h : Rel c m) : MV m 0 (reg m 0) := ⟨h.2.2.1.1, by decide, fun _ _ => rfl⟩
theorem reg_eq {m m' : St} {b : Nat} (h : ∀ k, gi m' 101 (b + k) = gi m 101 (b + k)) : reg m' b = reg m b := funext h
theorem RSg_in {c c' : St} {s : Nat} {g : Nat → Int32} (hI : InvG g) (h : RS c s g) (e : ∀ a k, s ≤ a → a < s + 20 → gi c' a k = gi c a k) : RS c' s g := RS_eq hI.1.1.2 h e
theorem Rel_fr {c m c' m' : St} (h : Rel c m) (hC : ∀ a k, (a < 3 ∨ a = 4 ∨ 16 ≤ a ∨ (a = 3 ∧ k = 1)) → gi c' a k = gi c a k) (hCl : ∀ k, gl c' 0 k = gl c 0 k) (hM : ∀ a k, ((101 ≤ a ∧ a ≤ 104) ∨ (a = 100 ∧ (k = 1 ∨ k = 7 ∨ k = 13))) → gi m' a k = gi m a k) (hMl : ∀ k, (k = 4 ∨ k = 5) → gl m' 100 k = gl m 100 k) : Rel c' m' := by
  obtain ⟨⟨a1, a2, a3⟩, ⟨b1, b2⟩, ⟨d1, d2⟩, ⟨e1, e2, e3⟩, f, ⟨g1, g2, g3⟩, ⟨i1, i2⟩, j⟩ := h
  have r : ∀ b, reg m' b = reg m b := fun b => reg_eq (fun k => hM _ _ (by omega))
  have t7 : gi m' 100 7 = gi m 100 7 := hM _ _ (by omega)
  refine ⟨⟨?_, ?_, ?_⟩, ⟨?_, ?_⟩, ⟨?_, ?_⟩, ⟨?_, ?_, ?_⟩, ?_, ⟨?_, ?_, ?_⟩, ⟨?_, ?_⟩, ?_⟩
  · rw [hC _ _ (by omega), hM _ _ (by omega)]; exact a1
  · rw [hC _ _ (by omega), hM _ _ (by omega)]; exact a2
  · rw [hC _ _ (by omega), hM _ _ (by omega)]; exact a3
  · rw [hCl, hMl _ (by omega)]; exact b1
  · rw [hCl, hMl _ (by omega)]; exact b2
  · rw [hM _ _ (by omega)]; exact d1
  · rw [hM _ _ (by omega)]; exact d2
  · rw [hC _ _ (by omega), t7]; exact e1
  · rw [t7]; exact e2
  · intro i hi
    rw [t7] at hi
    rw [hC _ _ (by omega), hM _ _ (by omega)]; exact e3 i hi
  · intro i hi
    rw [hC _ _ (by omega), hM _ _ (by omega)]; exact f i hi
  · exact LC_eq g1 (fun a k h1 _ _ => hC a k (by omega))
  · exact LC_eq g2 (fun a k h1 _ _ => hC a k (by omega))
  · exact LC_eq g3 (fun a k h1 _ _ => hC a k (by omega))
  · rw [r]; exact i1
  · rw [r]; exact RSg_in i1 i2 (fun a k h1 _ => hC a k (by omega))
  · intro i hi hk
    rw [hM _ _ (by omega)] at hk
    rw [r]
    obtain ⟨j1, j2⟩ := j i hi hk
    exact ⟨j1, RSg_in j1 j2 (fun a k h1 _ => hC a k (by omega))⟩
theorem Rel_up {c m : St} (h : Rel c m) {k : Nat} (hk : k < 3) : Rel (si c 0 (8 + k) (gi c 0 (8 + k) + 1)) (si m 103 k (gi m 103 k + 1)) := by
  obtain ⟨⟨a1, a2, a3⟩, b, d, ⟨e1, e2, e3⟩, f, ⟨g1, g2, g3⟩, ⟨i1, i2⟩, j⟩ := h
  have eC : ∀ a q, a ≠ 0 → gi (si c 0 (8 + k) (gi c 0 (8 + k) + 1)) a q = gi c a q := fun a q ha => gi_si_n _ _ _ _ (fun z => ha z.1)
  have eM : ∀ a q, a ≠ 103 → gi (si m 103 k (gi m 103 k + 1)) a q = gi m a q := fun a q ha => gi_si_n _ _ _ _ (fun z => ha z.1)
  have r : ∀ b, reg (si m 103 k (gi m 103 k + 1)) b = reg m b := fun b => reg_eq (fun k => eM _ _ (by decide))
  have t7 : gi (si m 103 k (gi m 103 k + 1)) 100 7 = gi m 100 7 := eM _ _ (by decide)
  refine ⟨⟨?_, ?_, ?_⟩, b, ?_, ⟨?_, ?_, ?_⟩, ?_, ⟨?_, ?_, ?_⟩, ⟨?_, ?_⟩, ?_⟩
  · rw [gi_si, gi_si]
    by_cases z : k = 0
    · subst z; rw [if_pos ⟨rfl, rfl⟩, if_pos ⟨rfl, rfl⟩, a1]
    · rw [if_neg (by omega), if_neg (by omega)]; exact a1
  · rw [gi_si, gi_si]
    by_cases z : k = 1
    · subst z; rw [if_pos ⟨rfl, rfl⟩, if_pos ⟨rfl, rfl⟩, a2]
    · rw [if_neg (by omega), if_neg (by omega)]; exact a2
  · rw [gi_si, gi_si]
    by_cases z : k = 2
    · subst z; rw [if_pos ⟨rfl, rfl⟩, if_pos ⟨rfl, rfl⟩, a3]
    · rw [if_neg (by omega), if_neg (by omega)]; exact a3
  · rw [eM _ _ (by decide), eM _ _ (by decide)]; exact d
  · rw [eC _ _ (by decide), t7]; exact e1
  · rw [t7]; exact e2
  · intro i hi
    rw [t7] at hi
    rw [eC _ _ (by decide), eM _ _ (by decide)]; exact e3 i hi
  · intro i hi
    rw [eC _ _ (by decide), eM _ _ (by decide)]; exact f i hi
  · exact LC_eq g1 (fun a k h1 _ _ => eC a k (by omega))
  · exact LC_eq g2 (fun a k h1 _ _ => eC a k (by omega))
  · exact LC_eq g3 (fun a k h1 _ _ => eC a k (by omega))
  · rw [r]; exact i1
  · rw [r]; exact RSg_in i1 i2 (fun a k h1 _ => eC a k (by omega))
  · intro i hi hk
    rw [eM _ _ (by decide)] at hk
    rw [r]
    obtain ⟨j1, j2⟩ := j i hi hk
    exact ⟨j1, RSg_in j1 j2 (fun a k h1 _ => eC a k (by omega))⟩
theorem p_bad (x : St) : ff_GG_refuseBad x 0 = some (-2, si x 0 8 (gi x 0 8 + 1)) := rfl
theorem p_no (x : St) : ff_GG_refuseNo x 0 = some (-3, si x 0 9 (gi x 0 9 + 1)) := rfl
theorem p_full (x : St) : ff_GG_refuseFull x 0 = some (-4, si x 0 10 (gi x 0 10 + 1)) := rfl
theorem q_bad (x : St) : ff_MO_bad x 100 = some (-2, si x 103 0 (gi x 103 0 + 1)) := by
  unfold ff_MO_bad
  rw [if_pos (by decide), if_pos (by decide), st_eq]; rfl
theorem q_no (x : St) : ff_MO_no x 100 = some (-3, si x 103 1 (gi x 103 1 + 1)) := by
  unfold ff_MO_no
  rw [if_pos (by decide), if_pos (by decide), st_eq]; rfl
theorem q_full (x : St) : ff_MO_full x 100 = some (-4, si x 103 2 (gi x 103 2 + 1)) := by
  unfold ff_MO_full
  rw [if_pos (by decide), if_pos (by decide), st_eq]; rfl
theorem Sim_bad {c m : St} (h : Rel c m) : Sim (bnd (ff_GG_refuseBad c 0) (fun r x => some (r, x))) (bnd (ff_MO_bad m 100) (fun r x => some (r, x))) :=
  ⟨-2, _, _, by rw [p_bad, bnd_some], by rw [q_bad, bnd_some], Rel_up h (k := 0) (by decide)⟩
theorem Sim_no {c m : St} (h : Rel c m) : Sim (bnd (ff_GG_refuseNo c 0) (fun r x => some (r, x))) (bnd (ff_MO_no m 100) (fun r x => some (r, x))) :=
  ⟨-3, _, _, by rw [p_no, bnd_some], by rw [q_no, bnd_some], Rel_up h (k := 1) (by decide)⟩
theorem Sim_full {c m : St} (h : Rel c m) : Sim (bnd (ff_GG_refuseFull c 0) (fun r x => some (r, x))) (bnd (ff_MO_full m 100) (fun r x => some (r, x))) :=
  ⟨-4, _, _, by rw [p_full, bnd_some], by rw [q_full, bnd_some], Rel_up h (k := 2) (by decide)⟩
theorem m_isM {x : St} {b : Nat} {g : Nat → Int32} (hV : MV x b g) (hr : rg 6 (g 0)) (v : Int32) : ff_MO_isMourner x 100 v = some (hs v (g 0), x) := by
  unfold ff_MO_isMourner
  have h2 := hr.2
  rw [show (0 : Int32) = nI 0 from rfl, m_get hV (by decide), bnd_some, p_in, bnd_some, hr.1, show wn v (nI 0) (nI (ix (g 0)) - 1) = hs v (nI (ix (g 0))) from (hs_wn (by omega)).symm, ← hr.1, if_pos]
  unfold zb hs
  split
  · rfl
  · split <;> rfl
theorem m_isJ {x : St} {b : Nat} {g : Nat → Int32} (hV : MV x b g) (hr : rg 6 (g 1)) (v : Int32) : ff_MO_isJoint x 100 v = some (hs v (g 1), x) := by
  unfold ff_MO_isJoint
  have h2 := hr.2
  rw [show (1 : Int32) = nI 1 from rfl, m_get hV (by decide), bnd_some, p_in, bnd_some, hr.1, show wn v 0 (nI (ix (g 1)) - nI 1) = hs v (nI (ix (g 1))) from (hs_wn (by omega)).symm, ← hr.1, if_pos]
  unfold zb hs
  split
  · rfl
  · split <;> rfl
theorem hs_k {v n : Int32} {M : Nat} (hr : rg M n) (hM : M < 1000) (h : ¬ hs v n = 0) : ∃ k : Nat, k < ix n ∧ v = nI k := by
  have h2 := hr.2
  rw [hr.1] at h
  exact hs_nat (by omega) h
theorem Rel_find {c m y : St} (h : Rel c m) (y4 : gi y 100 13 = -1) (y5 : ∀ a k, a ≠ 105 → ¬ (a = 100 ∧ k = 13) → gi y a k = gi m a k) (y6 : ∀ a k, gl y a k = gl m a k) : Rel c y :=
  Rel_fr h (fun _ _ _ => rfl) (fun _ => rfl) (fun a k hk => by
    by_cases z : a = 100 ∧ k = 13
    · rw [z.1, z.2, y4, h.2.2.1.2]
    · exact y5 a k (by omega) z) (fun k _ => y6 _ _)
theorem reg_find {m y : St} {b : Nat} (y5 : ∀ a k, a ≠ 105 → ¬ (a = 100 ∧ k = 13) → gi y a k = gi m a k) : reg y b = reg m b := reg_eq (fun k => y5 _ _ (by decide) (by omega))
theorem Rel_scr {c m c' m' : St} {L L' : List Nat} (h : Rel c m) (hC : onlyL L c c') (hL : ∀ a, a ∈ L → 5 ≤ a ∧ a < 16) (hM : onlyL L' m m') (hL' : ∀ a, a ∈ L' → 105 ≤ a) : Rel c' m' :=
  Rel_fr h (fun a k hk => hC.1 a k (fun e => by have := hL a e; omega)) (fun k => hC.2 0 k (fun e => by have := hL 0 e; omega)) (fun a k hk => hM.1 a k (fun e => by have := hL' a e; omega)) (fun k _ => hM.2 100 k (fun e => by have := hL' 100 e; omega))
