/-! a day, a boiling -/
theorem adD {c m : St} {s b e : Nat} (h : Pl c m s b) (he : e ≤ 99) : Pl (si c s 9 (nI e)) (si m 101 (b + 5) (nI e)) s b := by
  obtain ⟨hs, ⟨hb1, hb2⟩, hI, hR⟩ := h
  have eC : ∀ a k, ¬ (a = s ∧ k = 9) → gi (si c s 9 (nI e)) a k = gi c a k := fun a k ha => gi_si_n _ _ _ _ ha
  have eM : ∀ k, k ≠ 5 → reg (si m 101 (b + 5) (nI e)) b k = reg m b k := fun k hk => by rw [reg_si, upd_n _ _ hk]
  have ev : reg (si m 101 (b + 5) (nI e)) b 5 = nI e := by rw [reg_si, upd_s]
  have eG : ∀ k, (k < 5 ∨ (7 ≤ k ∧ k < 25) ∨ (49 ≤ k ∧ k < 105)) → reg (si m 101 (b + 5) (nI e)) b k = reg m b k := fun k hk => eM k (by omega)
  have eJ : ∀ i, i < 6 → reg (si m 101 (b + 5) (nI e)) b (25 + 4 * i) = reg m b (25 + 4 * i) := fun i hi => eM _ (by omega)
  refine ⟨hs, ⟨by rw [gi_si_n _ _ _ _ (by omega)]; exact hb1, hb2⟩, ?_, ?_⟩
  · exact InvG_time hI eG eJ (by rw [ev]; exact rg_nI he (by omega)) (by rw [eM 6 (by omega)]; exact hI.1.2.2.2.2.2.2) (fun i hi => by rw [eM _ (by omega), eM _ (by omega), eM _ (by omega)]; exact (hI.2.2.1 i hi).2) (fun u hu => by
      rw [eM 6 (by omega)] at hu
      obtain ⟨p1, p2, p3, p4⟩ := hI.2.2.2.2.2.2 u hu
      exact ⟨by rw [eM _ (by omega)]; exact p1, by rw [eM _ (by omega)]; exact p2, by rw [eM _ (by omega)]; exact p3, fun i hi => by
        rw [eM (106 + 21 * u) (by omega)] at hi
        rw [eM _ (by omega), eM _ (by omega), eM _ (by omega)]; exact p4 i hi⟩)
  · obtain ⟨-, ⟨-, -, -, -, -, s5, s6⟩, -, hbb, hpp⟩ := id hR
    exact RL_time hI hR (fun a k _ _ ha3 => eC a k (by omega)) eG eJ (by rw [gi_si_s, ev]) (by rw [eC _ _ (by omega), eM 6 (by omega)]; exact s6) (fun i k hi hk => by rw [eC _ _ (by omega), eM 1 (by omega), eM (26 + 4 * i + k) (by omega)]; exact hbb i k hi hk) (fun u hu => by
      rw [eM 6 (by omega)] at hu
      exact ⟨by rw [eC _ _ (by omega), eM _ (by omega)]; exact (hpp u hu).1, fun i k hi hk => by rw [eC _ _ (by omega), eM (106 + 21 * u) (by omega), eM (107 + 21 * u + 3 * i + k) (by omega)]; exact (hpp u hu).2 i k hi hk⟩)
theorem it_D {t p p0 : Nat} {f : Nat → Nat} {c0 m0 c m : St} (h : JJ t f c0 m0 c m p) (h0 : p0 ≤ p) :
    SimG (EE t f c0 m0 p0) (ff_RE_readDay c 3) (bnd (ff_MO_get m 100 5) (fun r_22 x_23 => bnd (ff_MO_isNumber x_23 100 r_22 99) (fun r_25 x_26 => bnd (ff_MO_due x_26 100 r_25) (fun r_28 x_29 => (if (gi x_29 100 12) = (-1) then ff_MO_readItem_111 x_29 100 r_28 5 100 else bnd (ff_MO_get x_29 100 5) (fun r_32 x_33 => ff_MO_readItem_111 x_33 100 r_32 5 100)))))) := by
  have hI := h.2.2.2.1.2.2.1
  have r5 := hI.1.2.2.2.2.2.1
  have r52 := r5.2
  unfold ff_RE_readDay
  rw [show ff_MO_get m 100 5 = some (reg m 945 5, m) from jgd h (k := 5) (by decide), bnd_some, show gi c (rf 3 4) 9 = reg m 945 5 from h.2.2.2.1.2.2.2.2.1.2.2.2.2.2.1]
  refine num_k (T := id) h (fun r1 c1 m1 w1 l1 h1 e1 => ?_) (fun r1 r1' c1 m1 g1 => ?_)
  · show SimG _ _ (if gi m1 100 12 = -1 then _ else _)
    rw [h1.2.2.1.2.2.2.2.2, if_pos rfl]
    rw [r5.1] at w1
    obtain ⟨e, d1, d2, rfl⟩ := wn_nat (b := 99) (by omega) (by decide) w1
    refine stop_k (b := fun x => ff_MO_set x 100 5 (nI e)) h1 (by omega) (fun cc hP => ?_)
    exact ⟨si cc 76 9 (nI e), si m1 101 (945 + 5) (nI e), rfl, m_s (k := 5) hP.2.1.1 (by decide) (by decide) _, adD hP d2, ⟨fun a k ha => gi_si_n _ _ _ _ (fun z => ha (by omega)), fun _ _ => rfl⟩, onlyR_si _ _ (by decide)⟩
  · show SimG _ _ (if gi m1 100 12 = -1 then _ else _)
    obtain ⟨q, q1, q2, q3, q4, q5⟩ := id g1
    rw [q3, if_neg (nI_ne_m1 (by omega)), show ff_MO_get m1 100 5 = some (reg m1 945 5, m1) from rgd g1 (k := 5) (by decide), bnd_some]
    unfold ff_MO_readItem_111
    rw [show ff_MO_set m1 100 5 (reg m1 945 5) = _ from m_s (k := 5) q5.1 (by decide) (by decide) _, bnd_some]
    exact stop_f ⟨q, q1, q2, by rw [gi_si_n _ _ _ _ (by omega)]; exact q3, q4, frM_R q5 (onlyR_si _ _ (by decide))⟩
theorem b_100 {c : St} {q : Nat} (hq : q ≤ 250) (h3 : gi c 3 3 = nI q) (j a b : Int32) : ff_RE_readBoil_100 c 3 j a b = some ((), c) := by
  unfold ff_RE_readBoil_100
  rw [h3, if_neg (nI_ne_m1 (by omega))]
theorem b_89 {c : St} {q : Nat} (hq : q ≤ 250) (h3 : gi c 3 3 = nI q) (j a b : Int32) : ff_RE_readBoil_89 c 3 j a b = some ((), c) := by
  unfold ff_RE_readBoil_89
  rw [f_stop hq h3, bnd_some, b_100 hq h3]
theorem b_86 {m : St} {q : Nat} (hq : q ≤ 250) (h3 : gi m 100 12 = nI q) (j a b : Int32) : ff_MO_readBoil_86 m 100 j a b = some ((), m) := by
  unfold ff_MO_readBoil_86
  rw [h3, if_neg (nI_ne_m1 (by omega))]
theorem bo_k {t p p0 : Nat} {f : Nat → Nat} {c0 m0 c m : St} {j a : Nat} {v : Int32} (h : JJ t f c0 m0 c m p) (h0 : p0 ≤ p) (hj : j < ix (reg m 945 1)) (ha : a < ix (reg m 945 0)) (hv : v = -1 ∨ (rg 5 v ∧ ix v < ix (reg m 945 0) ∧ ¬ v = nI a)) :
    SimG (EE t f c0 m0 p0) (ff_RE_readBoil_89 c 3 (nI j) (nI a) v) (bnd (ff_MO_readBoil_86 m 100 (nI j) (nI a) v) tail135) := by
  have hI := h.2.2.2.1.2.2.1
  have r02 := hI.1.1.2
  unfold ff_RE_readBoil_89 ff_RE_readBoil_100 ff_MO_readBoil_86
  refine stop_2 (b := fun x => bnd (ff_MO_boiled x 100 (nI j) (nI a) v) (fun _ x => some ((), x))) h h0 (fun cc hP => ?_)
  obtain ⟨c', m', a1, a2, a3, a4, a5, a6⟩ := s_boiled (v0 := nI a) (v1 := v) hP hj (rg_nI (by omega) (by omega)) (by rw [ix_nI (by omega)]; exact ha) hv
  exact ⟨c', m', by rw [show rf 3 4 = 76 from rfl, a1, bnd_some], by rw [a2, bnd_some], a3, a4, a5⟩
theorem it_B2 {t p p0 : Nat} {f : Nat → Nat} {c0 m0 c m : St} {j a : Nat} (h : JJ t f c0 m0 c m p) (h0 : p0 ≤ p) (hj : j < ix (reg m 945 1)) (ha : a < ix (reg m 945 0)) :
    SimG (EE t f c0 m0 p0) (if (gi c 3 3) = (-1) then bnd (ff_RE_nextToken c 3) (fun _ x_13 => (if (gi x_13 3 5) = 2 then bnd (ff_RE_wantNumber x_13 3 0 ((gi x_13 (rf (rf 3 4) 0) 3) - 1)) (fun _ x_20 => (if (gi x_13 3 7) = nI a then bnd (ff_RE_blame x_20 3) (fun _ x_27 => ff_RE_readBoil_89 x_27 3 (nI j) (nI a) (gi x_13 3 7)) else ff_RE_readBoil_89 x_20 3 (nI j) (nI a) (gi x_13 3 7))) else bnd (ff_RE_wantStop x_13 3) (fun _ x_17 => ff_RE_readBoil_100 x_17 3 (nI j) (nI a) (-1)))) else ff_RE_readBoil_100 c 3 (nI j) (nI a) (-1))
      (bnd (if (gi m 100 12) = (-1) then (if (gi m 100 10) = 7 then bnd (ff_MO_get m 100 0) (fun r_25 x_26 => bnd (ff_MO_isNumber x_26 100 0 (r_25 - 1)) (fun r_28 x_29 => (if r_28 = 0 then ff_MO_readBoil_81 x_29 100 (nI j) (nI a) 100 else (if (gi x_29 100 11) = nI a then ff_MO_readBoil_81 x_29 100 (nI j) (nI a) 100 else ff_MO_readBoil_82 x_29 100 (nI j) (nI a) 1 100)))) else ff_MO_readBoil_86 m 100 (nI j) (nI a) (-1)) else ff_MO_readBoil_86 m 100 (nI j) (nI a) (-1)) tail135) := by
  obtain ⟨hp, hC, hM, hP, fC, fM⟩ := id h
  have hI := hP.2.2.1
  have r0 := hI.1.1
  have r02 := r0.2
  have ht := hC.1.1
  have hs := tkS_le (f := f) hp
  have hMl := tkM_le f t p hp
  have hCl := tkC_le f t p
  obtain ⟨y, y1, y2, y3, y4, y5, y6⟩ := c_tk hC hp
  rw [hC.2.2, if_pos rfl, hM.2.2.2.2.2, if_pos rfl, y1, bnd_some, y5, show (2 : Int32) = nI 2 from rfl, nI_eqi (by omega) (by decide), hM.2.2.2.1, show (7 : Int32) = nI 7 from rfl, nI_eqi (by omega) (by decide)]
  by_cases q : tkC f t p = 2
  · have q7 := (tkM_7 hp).mpr q
    have eH : gi y (rf (rf 3 4) 0) 3 = reg m 945 0 := by
      rw [y2.1 _ _ (by rw [show rf (rf 3 4) 0 = 77 from rfl]; omega)]
      exact hP.2.2.2.2.1.1
    rw [if_pos q, if_pos q7, y6 q, show ff_MO_get m 100 0 = some (reg m 945 0, m) from jgd h (k := 0) (by decide), bnd_some, m_num hM hp, bnd_some, if_pos q, hM.2.2.2.2.1 q, eH]
    have rf1 : RF c0 m0 (si y 3 3 (nI (tkS f t p))) (si m 100 12 (nI (tkS f t p))) := ⟨tkS f t p, by omega, gi_si_s _ _ _ _, gi_si_s _ _ _ _, frC_C fC (onlyC_tr y2 (onlyC_si _ _)), frM_T fM (onlyT_si _ _)⟩
    have rM : bnd (ff_MO_readBoil_81 m 100 (nI j) (nI a) 100) tail135 = some ((), si m 100 12 (nI (tkS f t p))) := by
      unfold ff_MO_readBoil_81 ff_MO_readBoil_82
      rw [m_no hM, bnd_some, b_86 (q := tkS f t p) (by omega) (gi_si_s _ _ _ _), bnd_some]
      exact g_135 (q := tkS f t p) (by omega) (gi_si_s _ _ _ _)
    have eB : ff_RE_blame y 3 = some ((), si y 3 3 (nI (tkS f t p))) := c_bl y3.2.2 y4
    have eB2 : ff_RE_blame (si y 3 3 (nI (tkS f t p))) 3 = some ((), si y 3 3 (nI (tkS f t p))) := c_blF (q := tkS f t p) (by omega) (gi_si_s _ _ _ _)
    have e89 : ∀ v, ff_RE_readBoil_89 (si y 3 3 (nI (tkS f t p))) 3 (nI j) (nI a) v = some ((), si y 3 3 (nI (tkS f t p))) := fun v => b_89 (q := tkS f t p) (by omega) (gi_si_s _ _ _ _) _ _ _
    generalize hV : nI (tkV f (tkS f t p) (tkE f t p)) = V at *
    have eW : ff_RE_wantNumber y 3 0 (reg m 945 0 - 1) = if wn V 0 (reg m 945 0 - 1) = 0 then some ((), si y 3 3 (nI (tkS f t p))) else some ((), y) := by
      unfold ff_RE_wantNumber
      rw [y5, if_pos (by rw [q]; rfl), y6 q, p_within, bnd_some, eB, bnd_some]
    rw [eW]
    by_cases w : wn V 0 (reg m 945 0 - 1) = 0
    · rw [if_pos w, if_pos w, bnd_some, rM]
      by_cases z : V = nI a
      · rw [if_pos z, eB2, bnd_some, e89]
        exact ⟨_, _, rfl, rfl, Or.inr rf1⟩
      · rw [if_neg z, e89]
        exact ⟨_, _, rfl, rfl, Or.inr rf1⟩
    · rw [if_neg w, if_neg w, bnd_some]
      by_cases z : V = nI a
      · rw [if_pos z, if_pos z, eB, bnd_some, e89, rM]
        exact ⟨_, _, rfl, rfl, Or.inr rf1⟩
      · rw [if_neg z, if_neg z]
        obtain ⟨u, u1, u2, u3⟩ := m_tk hM hp
        unfold ff_MO_readBoil_82
        rw [u1, bnd_some, hM.2.2.2.2.1 q, hV]
        obtain ⟨k, k1, k2⟩ := wn_hs r0.1 (by omega) w
        have h' : JJ t f c0 m0 y u (tkE f t p) := ⟨(tkE_le hp).2, y3, u3, Pl_CT hP y2 u2, frC_C fC y2, frM_T fM u2⟩
        have eR : reg u 945 = reg m 945 := reg_T u2
        have hlt := tkE_lt hp (show ¬ tkC f t p = 0 by omega)
        exact bo_k h' (by omega) (by rw [eR]; exact hj) (by rw [eR]; exact ha) (Or.inr ⟨by rw [k2]; exact rg_nI (by omega) (by omega), by rw [eR, k2, ix_nI (by omega)]; exact k1, z⟩)
  · have q7 : ¬ tkM f t p = 7 := fun z => q ((tkM_7 hp).mp z)
    rw [if_neg q, if_neg q7]
    have e1 : bnd (ff_RE_wantStop y 3) (fun _ x_17 => ff_RE_readBoil_100 x_17 3 (nI j) (nI a) (-1)) = ff_RE_readBoil_89 c 3 (nI j) (nI a) (-1) := by
      unfold ff_RE_readBoil_89 ff_RE_readStop
      rw [hC.2.2, if_pos rfl, y1, bnd_some]
      cases ff_RE_wantStop y 3 with
      | none => rfl
      | some r => rfl
    rw [e1]
    exact bo_k h h0 hj ha (Or.inl rfl)
theorem it_B {t p p0 : Nat} {f : Nat → Nat} {c0 m0 c m : St} (h : JJ t f c0 m0 c m p) (h0 : p0 ≤ p) :
    SimG (EE t f c0 m0 p0) (ff_RE_readBoil c 3) (bnd (ff_MO_readBoil m 100) tail135) := by
  have hI := h.2.2.2.1.2.2.1
  have r0 := hI.1.1
  have r1 := hI.1.2.1
  have r02 := r0.2
  have r12 := r1.2
  have fin : ∀ (r1 r1' r2 r2' : Int32) (c m : St), RF c0 m0 c m → SimG (EE t f c0 m0 p0) (ff_RE_readBoil_100 c 3 r1 r2 (-1)) (bnd (ff_MO_readBoil_86 m 100 r1' r2' (-1)) tail135) := by
    intro r1 r1' r2 r2' c m g
    obtain ⟨q, q1, q2, q3, q4, q5⟩ := id g
    rw [b_100 q1 q2, b_86 q1 q3, bnd_some]
    exact ⟨c, m, rfl, g_135 q1 q3, Or.inr g⟩
  unfold ff_RE_readBoil ff_MO_readBoil
  rw [show ff_MO_get m 100 1 = some (reg m 945 1, m) from jgd h (k := 1) (by decide), bnd_some, show gi c (rf (rf 3 4) 1) 3 = reg m 945 1 from h.2.2.2.1.2.2.2.2.1.2.1]
  refine num_k (T := fun B => bnd B tail135) h (fun s1 c1 m1 w1 l1 h1 e1 => ?_) (fun s1 s1' c1 m1 g1 => ?_)
  · show SimG _ _ (bnd (bnd (ff_MO_get m1 100 0) _) _)
    rw [show ff_MO_get m1 100 0 = some (reg m1 945 0, m1) from jgd h1 (k := 0) (by decide), bnd_some, show gi c1 (rf (rf 3 4) 0) 3 = reg m1 945 0 from h1.2.2.2.1.2.2.2.2.1.1]
    refine num_k (T := fun B => bnd B tail135) h1 (fun s2 c2 m2 w2 l2 h2 e2 => ?_) (fun s2 s2' c2 m2 g2 => ?_)
    · rw [e1] at w2
      obtain ⟨j, j1, rfl⟩ := wn_hs r1.1 (by omega) w1
      obtain ⟨a, a1, rfl⟩ := wn_hs r0.1 (by omega) w2
      exact it_B2 h2 (by omega) (by rw [e2, e1]; exact j1) (by rw [e2, e1]; exact a1)
    · obtain ⟨q, q1, q2, q3, q4, q5⟩ := id g2
      rw [q2, if_neg (nI_ne_m1 (by omega)), q3, if_neg (nI_ne_m1 (by omega))]
      exact fin _ _ _ _ _ _ g2
  · show SimG _ _ (bnd (bnd (ff_MO_get m1 100 0) _) _)
    rw [show ff_MO_get m1 100 0 = some (reg m1 945 0, m1) from rgd g1 (k := 0) (by decide), bnd_some]
    refine num_f (T := fun B => bnd B tail135) g1 (fun s2 s2' => ?_)
    obtain ⟨q, q1, q2, q3, q4, q5⟩ := id g1
    rw [q2, if_neg (nI_ne_m1 (by omega)), q3, if_neg (nI_ne_m1 (by omega))]
    exact fin _ _ _ _ _ _ g1
