/-! an item, whichever it is -/
def WW (f : Nat → Nat) (t p k : Nat) : Bool := decide (tkC f t p = 1) && wdB f (tkS f t p) (tkE f t p) k
theorem c_W {t p k : Nat} {f : Nat → Nat} {y : St} (hT : TX y t f) (hp : p ≤ t) (hk : k < 7) (h6 : gi y 3 6 = nI (tkS f t p)) (h2 : gi y 3 2 = nI (tkE f t p)) (h5 : gi y 3 5 = nI (tkC f t p)) : ff_RE_isWord y 3 k = some (b32 (WW f t p k), y) := by
  have hc := tkC_le f t p
  unfold WW
  by_cases q : tkC f t p = 1
  · rw [decide_eq_true q, Bool.true_and]
    exact c_isWord hT hk (tkE_le hp).1 (tkE_le hp).2 h6 h2 (by rw [h5, q]; rfl)
  · rw [decide_eq_false q, Bool.false_and]
    unfold ff_RE_isWord
    rw [h5, if_neg (show ¬ nI (tkC f t p) = 1 from nI_eqn (b := 1) (by omega) (by decide) q)]; rfl
def bdy (y : St) (w : Nat → Bool) : Option (Unit × St) := if w 0 = true then ff_RE_readMourner y 3 else if w 1 = true then ff_RE_readJoint y 3 else if w 2 = true then ff_RE_readPiece y 3 else if w 3 = true then ff_RE_readFeast y 3 0 else if w 4 = true then ff_RE_readFeast y 3 1 else if w 5 = true then ff_RE_readDay y 3 else if w 6 = true then ff_RE_readBoil y 3 else ff_RE_blame y 3
theorem c_st21 {N : Nat} {v1 v2 : Int32} {c y : St} {w : Nat → Bool} (hv : ¬ gi c 3 1 < v2) (h3 : gi c 3 3 = -1) (hy : ff_RE_nextToken c 3 = some ((), y)) (h5 : ¬ gi y 3 5 = 0) (hw : ∀ k, k < 7 → ff_RE_isWord y 3 k = some (b32 (w k), y)) : ff_RE_readItems_21 (N + 1) c 3 v1 v2 = bnd (bdy y w) (fun _ x => ff_RE_readItems_21 N x 3 (v1 + 1) (v2 + 1)) := by
  show (if gi c 3 1 < v2 then _ else _) = _
  rw [if_neg hv, h3, if_pos rfl, hy, bnd_some, if_neg h5]
  unfold bdy
  have b0 : b32 false = 0 := rfl
  have b1 : ¬ b32 true = 0 := by decide
  have nt : ¬ false = true := by decide
  rw [hw 0 (by decide), bnd_some]
  cases w 0 with
  | true => rw [if_neg b1, if_pos rfl]
  | false =>
    rw [if_pos b0, if_neg nt, hw 1 (by decide), bnd_some]
    cases w 1 with
    | true => rw [if_neg b1, if_pos rfl]
    | false =>
      rw [if_pos b0, if_neg nt, hw 2 (by decide), bnd_some]
      cases w 2 with
      | true => rw [if_neg b1, if_pos rfl]
      | false =>
        rw [if_pos b0, if_neg nt, hw 3 (by decide), bnd_some]
        cases w 3 with
        | true => rw [if_neg b1, if_pos rfl]
        | false =>
          rw [if_pos b0, if_neg nt, hw 4 (by decide), bnd_some]
          cases w 4 with
          | true => rw [if_neg b1, if_pos rfl]
          | false =>
            rw [if_pos b0, if_neg nt, hw 5 (by decide), bnd_some]
            cases w 5 with
            | true => rw [if_neg b1, if_pos rfl]
            | false =>
              rw [if_pos b0, if_neg nt, hw 6 (by decide), bnd_some]
              cases w 6 with
              | true => rw [if_neg b1, if_pos rfl]
              | false => rw [if_pos b0, if_neg nt]
theorem ri_no {t p k : Nat} {f : Nat → Nat} {m : St} (hM : JM t f m p) (hs : tkS f t p ≤ 250) (hk : tkM f t p = k) (hk6 : k ≤ 6) (hb : ff_MO_mayBe m 100 (nI k) = some (0, m)) : ff_MO_readItem m 100 = some ((), si m 100 12 (nI (tkS f t p))) := by
  unfold ff_MO_readItem
  rw [hM.2.2.2.1, hk, if_neg (show ¬ (6 : Int32) < nI k from nI_nlt (a := 6) hk6 (by decide)), hb, bnd_some, if_pos rfl]
  unfold ff_MO_readItem_24 ff_MO_readItem_25
  rw [m_no hM, bnd_some, gi_si_s, if_neg (nI_ne_m1 (by omega))]
theorem ri_bad {t p : Nat} {f : Nat → Nat} {m : St} (hM : JM t f m p) (hs : tkS f t p ≤ 250) (hk : 6 < tkM f t p) (hl : tkM f t p ≤ 10) : ff_MO_readItem m 100 = some ((), si m 100 12 (nI (tkS f t p))) := by
  unfold ff_MO_readItem
  rw [hM.2.2.2.1, if_pos (show (6 : Int32) < nI (tkM f t p) from nI_lt (a := 6) hk (by omega))]
  unfold ff_MO_readItem_24 ff_MO_readItem_25
  rw [m_no hM, bnd_some, gi_si_s, if_neg (nI_ne_m1 (by omega))]
/-- what the reference does with an item's word behind it -/
def inr_ (x : St) (k : Int32) : Option (Unit × St) := (if k = 1 then bnd (ff_MO_isNumber x 100 0 99) (fun r_38 x_39 => bnd (ff_MO_due x_39 100 r_38) (fun r_41 x_42 => (if (gi x_42 100 12) = (-1) then bnd (ff_MO_addJoint x_42 100 r_41) (fun _ x_46 => ff_MO_readItem_68 x_46 100) else ff_MO_readItem_68 x_42 100))) else (if k = 5 then bnd (ff_MO_get x 100 5) (fun r_22 x_23 => bnd (ff_MO_isNumber x_23 100 r_22 99) (fun r_25 x_26 => bnd (ff_MO_due x_26 100 r_25) (fun r_28 x_29 => (if (gi x_29 100 12) = (-1) then ff_MO_readItem_111 x_29 100 r_28 5 100 else bnd (ff_MO_get x_29 100 5) (fun r_32 x_33 => ff_MO_readItem_111 x_33 100 r_32 5 100))))) else (if k = 6 then bnd (ff_MO_readBoil x 100) tail135 else bnd (ff_MO_readRow x 100 k) tail135)))
theorem ri_ok {t p k : Nat} {f : Nat → Nat} {m : St} (hM : JM t f m p) (hp : p ≤ t) (hk : tkM f t p = k) (hk6 : k ≤ 6) (hb : ff_MO_mayBe m 100 (nI k) = some (1, m)) : ∃ z, ff_MO_readItem m 100 = inr_ z (nI k) ∧ onlyT m z ∧ JM t f z (tkE f t p) := by
  obtain ⟨z, z1, z2, z3⟩ := m_tk hM hp
  refine ⟨z, ?_, z2, z3⟩
  unfold ff_MO_readItem
  rw [hM.2.2.2.1, hk, if_neg (show ¬ (6 : Int32) < nI k from nI_nlt (a := 6) hk6 (by decide)), hb, bnd_some, if_neg (by decide)]
  unfold ff_MO_readItem_25
  rw [z1, bnd_some, z3.2.2.2.2.2, if_pos rfl]
  rfl
theorem mb0 {t p : Nat} {f : Nat → Nat} {c0 m0 c m : St} (h : JJ t f c0 m0 c m p) : ff_MO_mayBe m 100 (nI 0) = some (if ix (reg m 945 0) < 6 then 1 else 0, m) := by
  have r := h.2.2.2.1.2.2.1.1.1
  have r2 := r.2
  unfold ff_MO_mayBe
  rw [if_pos (by decide), show ff_MO_get m 100 0 = some (reg m 945 0, m) from jgd h (k := 0) (by decide), bnd_some, r.1, ix_nI (by omega)]
  by_cases z : ix (reg m 945 0) < 6
  · rw [if_neg (show ¬ (6 : Int32) ≤ nI (ix (reg m 945 0)) from nI_ge (b := 6) z (by decide)), if_pos z]
  · rw [if_pos (show (6 : Int32) ≤ nI (ix (reg m 945 0)) from nI_le (a := 6) (by omega) (by omega)), if_neg z]
theorem mb1 {t p : Nat} {f : Nat → Nat} {c0 m0 c m : St} (h : JJ t f c0 m0 c m p) : ff_MO_mayBe m 100 (nI 1) = some (if ix (reg m 945 1) < 6 then 1 else 0, m) := by
  have r := h.2.2.2.1.2.2.1.1.2.1
  have r2 := r.2
  unfold ff_MO_mayBe
  rw [if_neg (by decide), if_pos (by decide), show ff_MO_get m 100 1 = some (reg m 945 1, m) from jgd h (k := 1) (by decide), bnd_some, r.1, ix_nI (by omega)]
  by_cases z : ix (reg m 945 1) < 6
  · rw [if_neg (show ¬ (6 : Int32) ≤ nI (ix (reg m 945 1)) from nI_ge (b := 6) z (by decide)), if_pos z]
  · rw [if_pos (show (6 : Int32) ≤ nI (ix (reg m 945 1)) from nI_le (a := 6) (by omega) (by omega)), if_neg z]
theorem mb2 {t p : Nat} {f : Nat → Nat} {c0 m0 c m : St} (h : JJ t f c0 m0 c m p) : ff_MO_mayBe m 100 (nI 2) = some (if ix (reg m 945 2) < 4 then 1 else 0, m) := by
  have r := h.2.2.2.1.2.2.1.1.2.2.1
  have r2 := r.2
  unfold ff_MO_mayBe
  rw [if_neg (by decide), if_neg (by decide), if_pos (by decide), show ff_MO_get m 100 2 = some (reg m 945 2, m) from jgd h (k := 2) (by decide), bnd_some, r.1, ix_nI (by omega)]
  by_cases z : ix (reg m 945 2) < 4
  · rw [if_neg (show ¬ (4 : Int32) ≤ nI (ix (reg m 945 2)) from nI_ge (b := 4) z (by decide)), if_pos z]
  · rw [if_pos (show (4 : Int32) ≤ nI (ix (reg m 945 2)) from nI_le (a := 4) (by omega) (by omega)), if_neg z]
theorem mb3 {t p w : Nat} {f : Nat → Nat} {c0 m0 c m : St} (h : JJ t f c0 m0 c m p) (hw : w ≤ 1) : ff_MO_mayBe m 100 (nI (3 + w)) = some (if ix (reg m 945 3) < 10 then 1 else 0, m) := by
  have r := h.2.2.2.1.2.2.1.1.2.2.2.1
  have r2 := r.2
  have e : bnd (ff_MO_get m 100 3) (fun r_17 x_18 => (if 10 ≤ r_17 then some ((0 : Int32), x_18) else some (1, x_18))) = some (if ix (reg m 945 3) < 10 then 1 else 0, m) := by
    rw [show ff_MO_get m 100 3 = some (reg m 945 3, m) from jgd h (k := 3) (by decide), bnd_some, r.1, ix_nI (by omega)]
    by_cases z : ix (reg m 945 3) < 10
    · rw [if_neg (show ¬ (10 : Int32) ≤ nI (ix (reg m 945 3)) from nI_ge (b := 10) z (by decide)), if_pos z]
    · rw [if_pos (show (10 : Int32) ≤ nI (ix (reg m 945 3)) from nI_le (a := 10) (by omega) (by omega)), if_neg z]
  unfold ff_MO_mayBe
  have : w = 0 ∨ w = 1 := by omega
  rcases this with rfl | rfl
  · rw [if_neg (by decide), if_neg (by decide), if_neg (by decide), if_pos (by decide), e]
  · rw [if_neg (by decide), if_neg (by decide), if_neg (by decide), if_neg (by decide), if_pos (by decide), e]
theorem no_M {c z : St} {q : Nat} (hq : q ≤ 250) (hw : ff_RE_wantRoom c 3 (rf (rf 3 4) 0) = some ((), z)) (h3 : gi z 3 3 = nI q) : ff_RE_readMourner c 3 = some ((), z) := by
  unfold ff_RE_readMourner
  rw [hw, bnd_some, f_num hq h3, bnd_some, f_num hq h3, bnd_some, f_num hq h3, bnd_some, f_stop hq h3, bnd_some, h3, if_neg (nI_ne_m1 (by omega))]
theorem no_J {c z : St} {q : Nat} (hq : q ≤ 250) (hw : ff_RE_wantRoom c 3 (rf (rf 3 4) 1) = some ((), z)) (h3 : gi z 3 3 = nI q) : ff_RE_readJoint c 3 = some ((), z) := by
  unfold ff_RE_readJoint
  rw [hw, bnd_some, f_num hq h3, bnd_some, f_stop hq h3, bnd_some, h3, if_neg (nI_ne_m1 (by omega))]
theorem no_P {c z : St} {q : Nat} (hq : q ≤ 250) (hw : ff_RE_wantRoom c 3 (rf (rf 3 4) 2) = some ((), z)) (h3 : gi z 3 3 = nI q) : ff_RE_readPiece c 3 = some ((), z) := by
  unfold ff_RE_readPiece ff_SH_allJoints
  rw [hw, bnd_some, bnd_some, f_num hq h3, bnd_some, f_num hq h3, bnd_some, f_stop hq h3, bnd_some, h3, if_neg (nI_ne_m1 (by omega))]
theorem no_F {c z : St} {q : Nat} {w : Int32} (hq : q ≤ 250) (hw : ff_RE_wantRoom c 3 (rf (rf 3 4) 3) = some ((), z)) (h3 : gi z 3 3 = nI q) : ff_RE_readFeast c 3 w = some ((), z) := by
  unfold ff_RE_readFeast
  rw [hw, bnd_some, f_num hq h3, bnd_some, f_num hq h3, bnd_some, f_stop hq h3, bnd_some, h3, if_neg (nI_ne_m1 (by omega))]
theorem WW_1 {f : Nat → Nat} {t p k : Nat} (h : WW f t p k = true) : tkC f t p = 1 ∧ wdB f (tkS f t p) (tkE f t p) k = true := by
  unfold WW at h
  rw [Bool.and_eq_true] at h
  exact ⟨of_decide_eq_true h.1, h.2⟩
theorem WW_0 {f : Nat → Nat} {t p k : Nat} (h1 : tkC f t p = 1) (h : WW f t p k = false) : ¬ wdB f (tkS f t p) (tkE f t p) k = true := by
  unfold WW at h
  rw [decide_eq_true h1, Bool.true_and] at h
  rw [h]
  decide
theorem item {t p : Nat} {f : Nat → Nat} {c0 m0 c m y : St} (h : JJ t f c0 m0 c m p) (hE : ¬ tkC f t p = 0) (y2 : onlyC c y) (y3 : JC t f y (tkE f t p)) (y4 : gi y 3 6 = nI (tkS f t p)) : SimG (EE t f c0 m0 p) (bdy y (WW f t p)) (ff_MO_readItem m 100) := by
  obtain ⟨hp, hC, hM, hP, fC, fM⟩ := id h
  have ht := hC.1.1
  have hs := tkS_le (f := f) hp
  have hs2 : tkS f t p ≤ 250 := by omega
  have hlt := tkE_lt hp hE
  have oR : onlyT m m := ⟨fun _ _ _ => rfl, fun _ _ => rfl⟩
  have hPy : Pl y m 76 945 := Pl_CT hP y2 oR
  have hI := hP.2.2.1
  have hRy := hPy.2.2.2
  have bad : RF c0 m0 (si y 3 3 (nI (tkS f t p))) (si m 100 12 (nI (tkS f t p))) := ⟨tkS f t p, hs2, gi_si_s _ _ _ _, gi_si_s _ _ _ _, frC_C fC (onlyC_tr y2 (onlyC_si _ _)), frM_T fM (onlyT_si _ _)⟩
  have jj : ∀ z, onlyT m z → JM t f z (tkE f t p) → JJ t f c0 m0 y z (tkE f t p) ∧ reg z 945 = reg m 945 := fun z z1 z2 => ⟨⟨(tkE_le hp).2, y3, z2, Pl_CT hP y2 z1, frC_C fC y2, frM_T fM z1⟩, reg_T z1⟩
  have nt : ¬ false = true := by decide
  unfold bdy
  cases w0 : WW f t p 0 with
  | true =>
    obtain ⟨k1, k2⟩ := WW_1 w0
    have kk : tkM f t p = 0 := by rw [tkM_w hp k1]; unfold wdK; rw [if_pos k2]
    rw [if_pos rfl]
    by_cases r : ix (reg m 945 0) < 6
    · obtain ⟨z, z1, z2, z3⟩ := ri_ok hM hp kk (by decide) (by rw [mb0 h, if_pos r])
      obtain ⟨j1, j2⟩ := jj z z2 z3
      rw [z1]
      exact it_M j1 (by omega) (by rw [j2]; exact r)
    · rw [ri_no hM hs2 kk (by decide) (by rw [mb0 h, if_neg r]), no_M hs2 (full_k (q := 77) (L := 6) (hRy.2.1.1.trans (hI.1.1).1) hRy.1.1.1 (hI.1.1).2 (by decide) r y3.2.2 y4) (gi_si_s _ _ _ _)]
      exact ⟨_, _, rfl, rfl, Or.inr bad⟩
  | false =>
    rw [if_neg nt]
    cases w1 : WW f t p 1 with
    | true =>
      obtain ⟨k1, k2⟩ := WW_1 w1
      have kk : tkM f t p = 1 := by rw [tkM_w hp k1]; unfold wdK; rw [if_neg (WW_0 k1 w0), if_pos k2]
      rw [if_pos rfl]
      by_cases r : ix (reg m 945 1) < 6
      · obtain ⟨z, z1, z2, z3⟩ := ri_ok hM hp kk (by decide) (by rw [mb1 h, if_pos r])
        obtain ⟨j1, j2⟩ := jj z z2 z3
        rw [z1]
        exact it_J j1 (by omega) (by rw [j2]; exact r)
      · rw [ri_no hM hs2 kk (by decide) (by rw [mb1 h, if_neg r]), no_J hs2 (full_k (q := 79) (L := 6) (hRy.2.1.2.1.trans (hI.1.2.1).1) hRy.1.2.1.1 (hI.1.2.1).2 (by decide) r y3.2.2 y4) (gi_si_s _ _ _ _)]
        exact ⟨_, _, rfl, rfl, Or.inr bad⟩
    | false =>
      rw [if_neg nt]
      cases w2 : WW f t p 2 with
      | true =>
        obtain ⟨k1, k2⟩ := WW_1 w2
        have kk : tkM f t p = 2 := by rw [tkM_w hp k1]; unfold wdK; rw [if_neg (WW_0 k1 w0), if_neg (WW_0 k1 w1), if_pos k2]
        rw [if_pos rfl]
        by_cases r : ix (reg m 945 2) < 4
        · obtain ⟨z, z1, z2, z3⟩ := ri_ok hM hp kk (by decide) (by rw [mb2 h, if_pos r])
          obtain ⟨j1, j2⟩ := jj z z2 z3
          rw [z1]
          exact it_P j1 (by omega) (by rw [j2]; exact r)
        · rw [ri_no hM hs2 kk (by decide) (by rw [mb2 h, if_neg r]), no_P hs2 (full_k (q := 81) (L := 4) (hRy.2.1.2.2.1.trans (hI.1.2.2.1).1) hRy.1.2.2.1.1 (hI.1.2.2.1).2 (by decide) r y3.2.2 y4) (gi_si_s _ _ _ _)]
          exact ⟨_, _, rfl, rfl, Or.inr bad⟩
      | false =>
        rw [if_neg nt]
        cases w3 : WW f t p 3 with
        | true =>
          obtain ⟨k1, k2⟩ := WW_1 w3
          have kk : tkM f t p = 3 + 0 := by rw [tkM_w hp k1]; unfold wdK; rw [if_neg (WW_0 k1 w0), if_neg (WW_0 k1 w1), if_neg (WW_0 k1 w2), if_pos k2]
          rw [if_pos rfl]
          by_cases r : ix (reg m 945 3) < 10
          · obtain ⟨z, z1, z2, z3⟩ := ri_ok hM hp kk (by decide) (by rw [mb3 h (w := 0) (by decide), if_pos r])
            obtain ⟨j1, j2⟩ := jj z z2 z3
            rw [z1]
            exact it_F j1 (by omega) (by rw [j2]; exact r) 0 (by decide)
          · rw [ri_no hM hs2 kk (by decide) (by rw [mb3 h (w := 0) (by decide), if_neg r]), no_F hs2 (full_k (q := 83) (L := 10) (hRy.2.1.2.2.2.1.trans (hI.1.2.2.2.1).1) hRy.1.2.2.2.1.1 (hI.1.2.2.2.1).2 (by decide) r y3.2.2 y4) (gi_si_s _ _ _ _)]
            exact ⟨_, _, rfl, rfl, Or.inr bad⟩
        | false =>
          rw [if_neg nt]
          cases w4 : WW f t p 4 with
          | true =>
            obtain ⟨k1, k2⟩ := WW_1 w4
            have kk : tkM f t p = 3 + 1 := by rw [tkM_w hp k1]; unfold wdK; rw [if_neg (WW_0 k1 w0), if_neg (WW_0 k1 w1), if_neg (WW_0 k1 w2), if_neg (WW_0 k1 w3), if_pos k2]
            rw [if_pos rfl]
            by_cases r : ix (reg m 945 3) < 10
            · obtain ⟨z, z1, z2, z3⟩ := ri_ok hM hp kk (by decide) (by rw [mb3 h (w := 1) (by decide), if_pos r])
              obtain ⟨j1, j2⟩ := jj z z2 z3
              rw [z1]
              exact it_F j1 (by omega) (by rw [j2]; exact r) 1 (by decide)
            · rw [ri_no hM hs2 kk (by decide) (by rw [mb3 h (w := 1) (by decide), if_neg r]), no_F hs2 (full_k (q := 83) (L := 10) (hRy.2.1.2.2.2.1.trans (hI.1.2.2.2.1).1) hRy.1.2.2.2.1.1 (hI.1.2.2.2.1).2 (by decide) r y3.2.2 y4) (gi_si_s _ _ _ _)]
              exact ⟨_, _, rfl, rfl, Or.inr bad⟩
          | false =>
            rw [if_neg nt]
            cases w5 : WW f t p 5 with
            | true =>
              obtain ⟨k1, k2⟩ := WW_1 w5
              have kk : tkM f t p = 5 := by rw [tkM_w hp k1]; unfold wdK; rw [if_neg (WW_0 k1 w0), if_neg (WW_0 k1 w1), if_neg (WW_0 k1 w2), if_neg (WW_0 k1 w3), if_neg (WW_0 k1 w4), if_pos k2]
              rw [if_pos rfl]
              obtain ⟨z, z1, z2, z3⟩ := ri_ok hM hp kk (by decide) rfl
              obtain ⟨j1, j2⟩ := jj z z2 z3
              rw [z1]
              exact it_D j1 (by omega)
            | false =>
              rw [if_neg nt]
              cases w6 : WW f t p 6 with
              | true =>
                obtain ⟨k1, k2⟩ := WW_1 w6
                have kk : tkM f t p = 6 := by rw [tkM_w hp k1]; unfold wdK; rw [if_neg (WW_0 k1 w0), if_neg (WW_0 k1 w1), if_neg (WW_0 k1 w2), if_neg (WW_0 k1 w3), if_neg (WW_0 k1 w4), if_neg (WW_0 k1 w5), if_pos k2]
                rw [if_pos rfl]
                obtain ⟨z, z1, z2, z3⟩ := ri_ok hM hp kk (by decide) rfl
                obtain ⟨j1, j2⟩ := jj z z2 z3
                rw [z1]
                exact it_B j1 (by omega)
              | false =>
                rw [if_neg nt, c_bl y3.2.2 y4]
                have kk : 6 < tkM f t p := by
                  by_cases k1 : tkC f t p = 1
                  · rw [tkM_w hp k1]
                    unfold wdK
                    rw [if_neg (WW_0 k1 w0), if_neg (WW_0 k1 w1), if_neg (WW_0 k1 w2), if_neg (WW_0 k1 w3), if_neg (WW_0 k1 w4), if_neg (WW_0 k1 w5), if_neg (WW_0 k1 w6)]
                    decide
                  · rw [tkM_n k1]
                    repeat' split
                    all_goals omega
                rw [ri_bad hM hs2 kk (tkM_le f t p hp)]
                exact ⟨_, _, rfl, rfl, Or.inr bad⟩
