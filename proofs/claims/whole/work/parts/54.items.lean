/-! items, one by one, behind their word -/
def tail135 : Unit → St → Option (Unit × St) := fun _ x => ff_MO_readItem_135 x 100
theorem stop_2 {t p p0 : Nat} {f : Nat → Nat} {c0 m0 c m : St} {a b : St → Option (Unit × St)} (h : JJ t f c0 m0 c m p) (h0 : p0 ≤ p)
    (hab : ∀ c1, Pl c1 m 76 945 → ∃ c' m', a c1 = some ((), c') ∧ b m = some ((), m') ∧ Pl c' m' 76 945 ∧ onlyS 76 c1 c' ∧ onlyR 945 m m') :
    SimG (EE t f c0 m0 p0) (bnd (ff_RE_readStop c 3) (fun _ x => if gi x 3 3 = -1 then a x else some ((), x))) (bnd (if gi m 100 12 = -1 then b m else some ((), m)) tail135) := by
  rw [h.2.2.1.2.2.2.2.2, if_pos rfl]
  exact stop_k h h0 hab
theorem stop_g {t p0 : Nat} {f : Nat → Nat} {c0 m0 c m : St} {a : St → Option (Unit × St)} {b : Option (Unit × St)} (h : RF c0 m0 c m) :
    SimG (EE t f c0 m0 p0) (bnd (ff_RE_readStop c 3) (fun _ x => if gi x 3 3 = -1 then a x else some ((), x))) (bnd (if gi m 100 12 = -1 then b else some ((), m)) tail135) := by
  obtain ⟨q, q1, q2, q3, q4, q5⟩ := id h
  rw [q3, if_neg (nI_ne_m1 (by omega)), bnd_some]
  exact stop_f h
theorem rgd {c0 m0 c m : St} (h : RF c0 m0 c m) {k : Nat} (hk : k < 315) : ff_MO_get m 100 (nI k) = some (reg m 945 k, m) := by
  obtain ⟨q, q1, q2, q3, q4, q5⟩ := id h
  exact m_g q5.1 (by decide) hk
theorem jgd {t p : Nat} {f : Nat → Nat} {c0 m0 c m : St} (h : JJ t f c0 m0 c m p) {k : Nat} (hk : k < 315) : ff_MO_get m 100 (nI k) = some (reg m 945 k, m) := m_g h.2.2.2.2.2.1 (by decide) hk
/-- room -/
theorem rm_k0 {c m : St} (h : Pl c m 76 945) (hr : ix (reg m 945 0) < 6) : ff_RE_wantRoom c 3 (rf (rf 3 4) 0) = some ((), c) := by
  obtain ⟨-, -, hI, hR⟩ := h
  unfold ff_RE_wantRoom
  rw [show ff_LE_isFull c (rf (rf 3 4) 0) = _ from le_full (q := 77) (L := 6) (hR.2.1.1.trans (hI.1.1).1) hR.1.1.1 (hI.1.1).2 (by decide), bnd_some, if_pos hr, if_pos rfl]
theorem rm_k1 {c m : St} (h : Pl c m 76 945) (hr : ix (reg m 945 1) < 6) : ff_RE_wantRoom c 3 (rf (rf 3 4) 1) = some ((), c) := by
  obtain ⟨-, -, hI, hR⟩ := h
  unfold ff_RE_wantRoom
  rw [show ff_LE_isFull c (rf (rf 3 4) 1) = _ from le_full (q := 79) (L := 6) (hR.2.1.2.1.trans (hI.1.2.1).1) hR.1.2.1.1 (hI.1.2.1).2 (by decide), bnd_some, if_pos hr, if_pos rfl]
theorem rm_k2 {c m : St} (h : Pl c m 76 945) (hr : ix (reg m 945 2) < 4) : ff_RE_wantRoom c 3 (rf (rf 3 4) 2) = some ((), c) := by
  obtain ⟨-, -, hI, hR⟩ := h
  unfold ff_RE_wantRoom
  rw [show ff_LE_isFull c (rf (rf 3 4) 2) = _ from le_full (q := 81) (L := 4) (hR.2.1.2.2.1.trans (hI.1.2.2.1).1) hR.1.2.2.1.1 (hI.1.2.2.1).2 (by decide), bnd_some, if_pos hr, if_pos rfl]
theorem rm_k3 {c m : St} (h : Pl c m 76 945) (hr : ix (reg m 945 3) < 10) : ff_RE_wantRoom c 3 (rf (rf 3 4) 3) = some ((), c) := by
  obtain ⟨-, -, hI, hR⟩ := h
  unfold ff_RE_wantRoom
  rw [show ff_LE_isFull c (rf (rf 3 4) 3) = _ from le_full (q := 83) (L := 10) (hR.2.1.2.2.2.1.trans (hI.1.2.2.2.1).1) hR.1.2.2.2.1.1 (hI.1.2.2.2.1).2 (by decide), bnd_some, if_pos hr, if_pos rfl]
/-- no room -/
theorem full_k {c : St} {q n L S : Nat} (h3 : gi c q 3 = nI n) (h0 : gi c q 0 = nI L) (hn : n ≤ L) (hL : L < 100) (hr : ¬ n < L) (hf : gi c 3 3 = -1) (h6 : gi c 3 6 = nI S) : ff_RE_wantRoom c 3 q = some ((), si c 3 3 (nI S)) := by
  unfold ff_RE_wantRoom
  rw [le_full h3 h0 hn hL, bnd_some, if_neg hr, if_neg (by decide), c_bl hf h6, bnd_some]
theorem it_M {t p p0 : Nat} {f : Nat → Nat} {c0 m0 c m : St} (h : JJ t f c0 m0 c m p) (h0 : p0 ≤ p) (hr : ix (reg m 945 0) < 6) :
    SimG (EE t f c0 m0 p0) (ff_RE_readMourner c 3) (bnd (ff_MO_readRow m 100 0) tail135) := by
  unfold ff_RE_readMourner ff_MO_readRow
  rw [rm_k0 h.2.2.2.1 hr, bnd_some, if_pos rfl]
  refine num_k (T := fun B => bnd B tail135) h (fun r1 c1 m1 w1 l1 h1 e1 => ?_) (fun r1 r1' c1 m1 g1 => ?_)
  · refine num_k (T := fun B => bnd B tail135) h1 (fun r2 c2 m2 w2 l2 h2 e2 => ?_) (fun r2 r2' c2 m2 g2 => ?_)
    · refine num_k (T := fun B => bnd B tail135) h2 (fun r3 c3 m3 w3 l3 h3 e3 => ?_) (fun r3 r3' c3 m3 g3 => ?_)
      · refine stop_2 (b := fun x => bnd (ff_MO_addMourner x 100 r1 r2 r3) (fun _ x => some ((), x))) h3 (by omega) (fun cc hP => ?_)
        obtain ⟨c', m', a1, a2, a3, a4, a5, a6⟩ := adM (v0 := r1) (v1 := r2) (v2 := r3) hP rfl (by rw [e3, e2, e1]; exact hr) (wn_rg (b := 5) (by decide) w1) (wn_rg (b := 99) (by decide) w2) (wn_rg (b := 99) (by decide) w3)
        exact ⟨c', m', by rw [show rf (rf 3 4) 0 = rf 76 0 from rfl, a1, bnd_some], by rw [a2, bnd_some], a3, a4, a5.1⟩
      · exact stop_g g3
    · refine num_f (T := fun B => bnd B tail135) g2 (fun r3 r3' => ?_)
      exact stop_g g2
  · refine num_f (T := fun B => bnd B tail135) g1 (fun r2 r2' => ?_)
    refine num_f (T := fun B => bnd B tail135) g1 (fun r3 r3' => ?_)
    exact stop_g g1
theorem it_J {t p p0 : Nat} {f : Nat → Nat} {c0 m0 c m : St} (h : JJ t f c0 m0 c m p) (h0 : p0 ≤ p) (hr : ix (reg m 945 1) < 6) :
    SimG (EE t f c0 m0 p0) (ff_RE_readJoint c 3) (bnd (ff_MO_isNumber m 100 0 99) (fun r_38 x_39 => bnd (ff_MO_due x_39 100 r_38) (fun r_41 x_42 => (if (gi x_42 100 12) = (-1) then bnd (ff_MO_addJoint x_42 100 r_41) (fun _ x_46 => ff_MO_readItem_68 x_46 100) else ff_MO_readItem_68 x_42 100)))) := by
  unfold ff_RE_readJoint
  rw [rm_k1 h.2.2.2.1 hr, bnd_some]
  refine num_k (T := id) h (fun r1 c1 m1 w1 l1 h1 e1 => ?_) (fun r1 r1' c1 m1 g1 => ?_)
  · show SimG _ _ (if gi m1 100 12 = -1 then _ else _)
    rw [h1.2.2.1.2.2.2.2.2, if_pos rfl]
    refine stop_k (b := fun x => ff_MO_addJoint x 100 r1) h1 (by omega) (fun cc hP => ?_)
    obtain ⟨c', m', a1, a2, a3, a4, a5, a6⟩ := adJ (v0 := r1) hP rfl (by rw [e1]; exact hr) (wn_rg (b := 99) (by decide) w1)
    exact ⟨c', m', by rw [show rf (rf 3 4) 1 = rf 76 1 from rfl, a1, bnd_some], a2, a3, a4, a5.1⟩
  · show SimG _ _ (if gi m1 100 12 = -1 then _ else _)
    obtain ⟨q, q1, q2, q3, q4, q5⟩ := id g1
    rw [q3, if_neg (nI_ne_m1 (by omega))]
    exact stop_f g1
theorem set_num {m : St} (hb : gi m 100 1 = nI 945) (K : Int32 → St → Option (Unit × St)) (hK : K = fun r_27 x_28 => bnd (ff_MO_isNumber x_28 100 0 99) (fun r_30 x_31 => bnd (ff_MO_due x_31 100 r_30) (fun r_33 x_34 => (if (gi x_34 100 12) = (-1) then bnd (ff_MO_addPiece x_34 100 r_27 r_33) (fun _ x_38 => some ((), x_38)) else some ((), x_34))))) : ff_MO_readRow m 100 2 = bnd (ff_MO_isNumber m 100 1 ((1 <<< (reg m 945 1 &&& 31)) - 1)) (fun b x => bnd (ff_MO_due x 100 b) K) := by
  unfold ff_MO_readRow ff_MO_readRow_89 ff_MO_readRow_90
  rw [if_neg (by decide), if_pos rfl, g_num, bnd_some, hK]
  by_cases q : gi m 100 10 = 7
  · rw [if_pos q, if_pos q, m_isSet (MVr hb (by decide)), bnd_some]
    rcases wn_01 (gi m 100 11) 1 ((1 <<< (reg m 945 1 &&& 31)) - 1) with w | w
    · rw [w, if_pos rfl]
    · rw [w, if_neg (by decide)]
  · rw [if_neg q, if_neg q]
theorem it_P {t p p0 : Nat} {f : Nat → Nat} {c0 m0 c m : St} (h : JJ t f c0 m0 c m p) (h0 : p0 ≤ p) (hr : ix (reg m 945 2) < 4) :
    SimG (EE t f c0 m0 p0) (ff_RE_readPiece c 3) (bnd (ff_MO_readRow m 100 2) tail135) := by
  have hI := h.2.2.2.1.2.2.1
  have hR := h.2.2.2.1.2.2.2
  have e3 : gi c (rf (rf 3 4) 1) 3 = reg m 945 1 := hR.2.1.2.1
  unfold ff_RE_readPiece ff_SH_allJoints
  rw [rm_k2 h.2.2.2.1 hr, bnd_some, bnd_some, e3, set_num h.2.2.2.2.2.1 _ rfl]
  refine num_k (T := fun B => bnd B tail135) h (fun r1 c1 m1 w1 l1 h1 e1 => ?_) (fun r1 r1' c1 m1 g1 => ?_)
  · refine num_k (T := fun B => bnd B tail135) h1 (fun r2 c2 m2 w2 l2 h2 e2 => ?_) (fun r2 r2' c2 m2 g2 => ?_)
    · refine stop_2 (b := fun x => bnd (ff_MO_addPiece x 100 r1 r2) (fun _ x => some ((), x))) h2 (by omega) (fun cc hP => ?_)
      obtain ⟨s1, s2⟩ := set_rg hI w1
      obtain ⟨c', m', a1, a2, a3, a4, a5, a6⟩ := adP (v0 := r1) (v1 := r2) hP rfl (by rw [e2, e1]; exact hr) (by rw [e2, e1]; exact s1) s2 (wn_rg (b := 99) (by decide) w2)
      exact ⟨c', m', by rw [show rf (rf 3 4) 2 = rf 76 2 from rfl, a1, bnd_some], by rw [a2, bnd_some], a3, a4, a5.1⟩
    · exact stop_g g2
  · refine num_f (T := fun B => bnd B tail135) g1 (fun r2 r2' => ?_)
    exact stop_g g1
theorem wn_hs {v n : Int32} (hn : n = nI (ix n)) (hn2 : ix n ≤ 100) (h : ¬ wn v 0 (n - 1) = 0) : ∃ k, k < ix n ∧ v = nI k := by
  rw [hn, ← hs_wn (by omega)] at h
  exact hs_nat (by omega) h
theorem it_F {t p p0 : Nat} {f : Nat → Nat} {c0 m0 c m : St} (h : JJ t f c0 m0 c m p) (h0 : p0 ≤ p) (hr : ix (reg m 945 3) < 10) (w : Nat) (hw : w ≤ 1) :
    SimG (EE t f c0 m0 p0) (ff_RE_readFeast c 3 (nI w)) (bnd (ff_MO_readRow m 100 (nI (3 + w))) tail135) := by
  have hI := h.2.2.2.1.2.2.1
  have ew : nI (3 + w) = 4 ↔ w = 1 := by rw [show (4 : Int32) = nI 4 from rfl, nI_eq (by omega) (by decide)]; omega
  unfold ff_RE_readFeast ff_MO_readRow
  rw [rm_k3 h.2.2.2.1 hr, bnd_some, if_neg (show ¬ nI (3 + w) = 0 from nI_eqn (b := 0) (by omega) (by decide) (by omega)), if_neg (show ¬ nI (3 + w) = 2 from nI_eqn (b := 2) (by omega) (by decide) (by omega))]
  refine num_k (T := fun B => bnd B tail135) h (fun r1 c1 m1 w1 l1 h1 e1 => ?_) (fun r1 r1' c1 m1 g1 => ?_)
  · show SimG _ _ (bnd (bnd (ff_MO_get m1 100 0) _) _)
    rw [show ff_MO_get m1 100 0 = some (reg m1 945 0, m1) from jgd h1 (k := 0) (by decide), bnd_some, show gi c1 (rf (rf 3 4) 0) 3 = reg m1 945 0 from h1.2.2.2.1.2.2.2.2.1.1]
    refine num_k (T := fun B => bnd B tail135) h1 (fun r2 c2 m2 w2 l2 h2 e2 => ?_) (fun r2 r2' c2 m2 g2 => ?_)
    · refine stop_2 (b := fun x => if nI (3 + w) = 4 then bnd (ff_MO_addFeast x 100 1 r1 r2) (fun _ x_24 => some ((), x_24)) else bnd (ff_MO_addFeast x 100 0 r1 r2) (fun _ x_21 => some ((), x_21))) h2 (by omega) (fun cc hP => ?_)
      have r0 := hI.1.1
      have r02 := r0.2
      rw [e1] at w2
      obtain ⟨k, k1, k2⟩ := wn_hs r0.1 (by omega) w2
      obtain ⟨n, n1, n2, n3⟩ := wn_nat (a := 1) (b := 99) (by decide) (by decide) w1
      have eb : (if nI (3 + w) = 4 then bnd (ff_MO_addFeast m2 100 1 r1 r2) (fun _ x_24 => some ((), x_24)) else bnd (ff_MO_addFeast m2 100 0 r1 r2) (fun _ x_21 => some ((), x_21))) = bnd (ff_MO_addFeast m2 100 (nI w) r1 r2) (fun _ x_24 => some ((), x_24)) := by
        by_cases z : w = 1
        · rw [if_pos (ew.mpr z), z]; rfl
        · rw [if_neg (fun q => z (ew.mp q)), show w = 0 by omega]; rfl
      obtain ⟨c', m', a1, a2, a3, a4, a5, a6⟩ := adF (v0 := nI w) (v1 := r1) (v2 := r2) hP rfl (by rw [e2, e1]; exact hr) (rg_nI hw (by omega)) (by rw [n3]; exact rg_nI n2 (by omega)) (by rw [n3, ix_nI (by omega)]; omega) (by rw [k2]; exact rg_nI (by omega) (by omega)) (by rw [e2, e1, k2, ix_nI (by omega)]; exact k1)
      exact ⟨c', m', by rw [show rf (rf 3 4) 3 = rf 76 3 from rfl, a1, bnd_some], by rw [eb, a2, bnd_some], a3, a4, a5.1⟩
    · exact stop_g g2
  · show SimG _ _ (bnd (bnd (ff_MO_get m1 100 0) _) _)
    rw [show ff_MO_get m1 100 0 = some (reg m1 945 0, m1) from rgd g1 (k := 0) (by decide), bnd_some]
    refine num_f (T := fun B => bnd B tail135) g1 (fun r2 r2' => ?_)
    exact stop_g g1
