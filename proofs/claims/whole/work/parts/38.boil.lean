/-! boil, day, undo -/
theorem K_ok {c y : St} {g g' : Nat → Int32} {n : Nat} (hI : InvG g) (h : RS c 16 g) (hn : n = ix (g 6)) (hN : KN g g' (if n = 10 then 9 else n) (if n = 10 then 1 else 0)) (hC : KC c y (if n = 10 then 9 else n) (if n = 10 then 1 else 0)) : InvG g' ∧ RS y 16 g' := by
  have r6 := hI.1.2.2.2.2.2.2
  have r62 := r6.2
  have r1 := hI.1.2.1
  have r12 := r1.2
  have hpos : ∃ p e, p = (if n = 10 then 9 else n) ∧ e = (if n = 10 then 1 else 0) ∧ p < 10 ∧ p + e ≤ n := by
    by_cases q : n = 10
    · exact ⟨9, 1, by rw [if_pos q], by rw [if_pos q], by omega, by omega⟩
    · exact ⟨n, 0, by rw [if_neg q], by rw [if_neg q], by omega, by omega⟩
  obtain ⟨p, e, hp, he, hp2, hpe⟩ := hpos
  rw [← hp, ← he] at hN hC
  obtain ⟨k1, k2, k3, k4, k5, k6⟩ := hN
  obtain ⟨c1, c2, c3, c4, c5, c6⟩ := hC
  have e6 : ix (g' 6) = p + 1 := by rw [k2, ix_nI (by omega)]
  have eG : ∀ k, (k < 5 ∨ (7 ≤ k ∧ k < 25) ∨ (49 ≤ k ∧ k < 105)) → g' k = g k := fun k hk => k1 k (by omega) (by omega)
  have eJ : ∀ j, j < 6 → g' (25 + 4 * j) = g (25 + 4 * j) := fun j hj => k1 _ (by omega) (by omega)
  have hI' : InvG g' := InvG_time hI eG eJ (by rw [k1 5 (by omega) (by omega)]; exact hI.1.2.2.2.2.2.1) (by rw [k2]; exact rg_nI (by omega) (by omega)) (fun j hj => by
    rw [k1 _ (by omega) (by omega), k1 _ (by omega) (by omega), k1 _ (by omega) (by omega)]; exact (hI.2.2.1 j hj).2) (fun u hu => by
    rw [e6] at hu
    by_cases w : u = p
    · subst w
      rw [k4, k5]
      refine ⟨hI.1.2.2.2.2.2.1, r1, Nat.le_refl _, fun j hj => ?_⟩
      have a0 := k6 j 0 (by omega) (by omega)
      have a1 := k6 j 1 (by omega) (by omega)
      have a2 := k6 j 2 (by omega) (by omega)
      rw [Nat.add_zero, Nat.add_zero] at a0
      rw [show 107 + 21 * u + 3 * j + 1 = 108 + 21 * u + 3 * j by omega, show 26 + 4 * j + 1 = 27 + 4 * j by omega] at a1
      rw [show 107 + 21 * u + 3 * j + 2 = 109 + 21 * u + 3 * j by omega, show 26 + 4 * j + 2 = 28 + 4 * j by omega] at a2
      rw [a0, a1, a2]
      exact (hI.2.2.1 j hj).2
    · obtain ⟨p1, p2, p3, p4⟩ := hI.2.2.2.2.2.2 (u + e) (by omega)
      have p22 := p2.2
      have b0 := k3 u 0 (by omega) (by omega)
      have b1 := k3 u 1 (by omega) (by omega)
      rw [Nat.add_zero, Nat.add_zero] at b0
      rw [show 105 + 21 * u + 1 = 106 + 21 * u by omega, show 105 + 21 * (u + e) + 1 = 106 + 21 * (u + e) by omega] at b1
      rw [b0, b1]
      refine ⟨p1, p2, p3, fun j hj => ?_⟩
      have a0 := k3 u (2 + 3 * j) (by omega) (by omega)
      have a1 := k3 u (3 + 3 * j) (by omega) (by omega)
      have a2 := k3 u (4 + 3 * j) (by omega) (by omega)
      rw [show 105 + 21 * u + (2 + 3 * j) = 107 + 21 * u + 3 * j by omega, show 105 + 21 * (u + e) + (2 + 3 * j) = 107 + 21 * (u + e) + 3 * j by omega] at a0
      rw [show 105 + 21 * u + (3 + 3 * j) = 108 + 21 * u + 3 * j by omega, show 105 + 21 * (u + e) + (3 + 3 * j) = 108 + 21 * (u + e) + 3 * j by omega] at a1
      rw [show 105 + 21 * u + (4 + 3 * j) = 109 + 21 * u + 3 * j by omega, show 105 + 21 * (u + e) + (4 + 3 * j) = 109 + 21 * (u + e) + 3 * j by omega] at a2
      rw [a0, a1, a2]
      exact p4 j hj)
  obtain ⟨-, ⟨-, -, -, -, -, s5, s6⟩, -, hb, hpp⟩ := id h.1
  have hR' : RL y 16 g' := RL_time hI h.1 (fun a k _ ha2 ha3 => c1 a k (by omega) (by omega)) eG eJ (by rw [c1 _ _ (by omega) (by omega), k1 5 (by omega) (by omega)]; exact s5) (by rw [c3, k2]) (fun j k hj hk => by
      rw [c1 _ _ (by omega) (by omega), k1 1 (by omega) (by omega), k1 _ (by omega) (by omega)]
      exact hb j k hj hk) (fun u hu => by
      rw [e6] at hu
      by_cases w : u = p
      · subst w
        refine ⟨by rw [show 16 + 19 = 35 from rfl, c5, k4]; exact s5, fun j k hj hk => ?_⟩
        rw [show 16 + 19 = 35 from rfl, show 19 * u + 1 + 3 * j + k = 19 * u + 1 + (3 * j + k) by omega, c6 _ (by omega), k5, k6 j k hj hk]
        exact hb j k hj hk
      · obtain ⟨p1, p2⟩ := hpp (u + e) (by omega)
        have b1 := k3 u 1 (by omega) (by omega)
        rw [show 105 + 21 * u + 1 = 106 + 21 * u by omega, show 105 + 21 * (u + e) + 1 = 106 + 21 * (u + e) by omega] at b1
        refine ⟨?_, fun j k hj hk => ?_⟩
        · have a0 := c4 u 0 (by omega) (by omega)
          have b0 := k3 u 0 (by omega) (by omega)
          rw [Nat.add_zero, Nat.add_zero] at a0 b0
          rw [show 16 + 19 = 35 from rfl, a0, b0]
          exact p1
        · have a0 := c4 u (1 + 3 * j + k) (by omega) (by omega)
          have b0 := k3 u (2 + 3 * j + k) (by omega) (by omega)
          rw [show 19 * u + (1 + 3 * j + k) = 19 * u + 1 + 3 * j + k by omega, show 19 * (u + e) + (1 + 3 * j + k) = 19 * (u + e) + 1 + 3 * j + k by omega] at a0
          rw [show 105 + 21 * u + (2 + 3 * j + k) = 107 + 21 * u + 3 * j + k by omega, show 105 + 21 * (u + e) + (2 + 3 * j + k) = 107 + 21 * (u + e) + 3 * j + k by omega] at b0
          rw [show 16 + 19 = 35 from rfl, a0, b0, b1]
          exact p2 j k hj hk)
  exact ⟨hI', RS_keep hI h hR' (fun m e _ => c1 _ _ (by omega) (by omega)) (k1 0 (by omega) (by omega)) (fun k hk => k1 k (by omega) (by omega))⟩
theorem s_know {c m : St} (h : Rel c m) : ∃ c' m', ff_SH_keepPast c 16 = some ((), c') ∧ ff_MO_know m 100 = some ((), m') ∧ Rel c' m' ∧ (∀ k, k < 105 → k ≠ 6 → reg m' 0 k = reg m 0 k) := by
  obtain ⟨-, -, -, -, -, -, ⟨hI, hR⟩, -⟩ := id h
  have r6 := hI.1.2.2.2.2.2.2
  have r62 := r6.2
  obtain ⟨m', m1, m2, m3⟩ := m_know (n := ix (reg m 0 6)) h.2.2.1.1 (by decide) r6.1 r62
  obtain ⟨c', c1, c2⟩ := c_keep (c := c) (n := ix (reg m 0 6)) (hR.1.2.1.2.2.2.2.2.2.trans r6.1) r62
  obtain ⟨hI', hR'⟩ := K_ok hI hR rfl m3 c2
  exact ⟨c', m', c1, m1, Rel_shR h ⟨fun a k ha => c2.1 a k (by omega) (by omega), c2.2.1⟩ m2 hI' hR', m3.1⟩
/-- boiling, of one shop on both sides -/
theorem s_boiled {c m : St} {s b j : Nat} {v0 v1 : Int32} (h : Pl c m s b) (hj : j < ix (reg m b 1)) (h0 : rg 5 v0) (h0' : ix v0 < ix (reg m b 0)) (h1 : v1 = -1 ∨ (rg 5 v1 ∧ ix v1 < ix (reg m b 0) ∧ ¬ v1 = v0)) : ∃ c' m', ff_SH_boilNow c s (nI j) v0 v1 = some ((), c') ∧ ff_MO_boiled m 100 (nI j) v0 v1 = some ((), m') ∧ Pl c' m' s b ∧ onlyS s c c' ∧ onlyR b m m' ∧ (∀ k, k < 25 ∨ 49 ≤ k → reg m' b k = reg m b k) ∧ reg m' b (26 + 4 * j) = reg m b 5 ∧ (∀ a k, a ≠ s + 18 → gi c' a k = gi c a k) := by
  obtain ⟨hs, ⟨hb1, hb2⟩, hI, hR⟩ := h
  have r1 := hI.1.2.1
  have r12 := r1.2
  have r5 := hI.1.2.2.2.2.2.1
  obtain ⟨C, hC⟩ : ∃ C, C = si (si (si c (s + 18) (3 * j) (gi c s 9)) (s + 18) (3 * j + 1) v0) (s + 18) (3 * j + 2) v1 := ⟨_, rfl⟩
  obtain ⟨M, hM⟩ : ∃ M, M = si (si (si m 101 (b + (26 + 4 * j)) (reg m b 5)) 101 (b + (27 + 4 * j)) v0) 101 (b + (28 + 4 * j)) v1 := ⟨_, rfl⟩
  have eC : ∀ a k, ¬ (a = s + 18 ∧ 3 * j ≤ k ∧ k < 3 * j + 3) → gi C a k = gi c a k := fun a k ha => by rw [hC, gi_si_n _ _ _ _ (by omega), gi_si_n _ _ _ _ (by omega), gi_si_n _ _ _ _ (by omega)]
  have cv0 : gi C (s + 18) (3 * j) = gi c s 9 := by rw [hC, gi_si_n _ _ _ _ (by omega), gi_si_n _ _ _ _ (by omega), gi_si_s]
  have cv1 : gi C (s + 18) (3 * j + 1) = v0 := by rw [hC, gi_si_n _ _ _ _ (by omega), gi_si_s]
  have cv2 : gi C (s + 18) (3 * j + 2) = v1 := by rw [hC, gi_si_s]
  have eM : ∀ k, ¬ (26 + 4 * j ≤ k ∧ k < 29 + 4 * j) → reg M b k = reg m b k := fun k hk => by rw [hM, reg_si, reg_si, reg_si, upd_n _ _ (by omega), upd_n _ _ (by omega), upd_n _ _ (by omega)]
  have mv0 : reg M b (26 + 4 * j) = reg m b 5 := by rw [hM, reg_si, reg_si, reg_si, upd_n _ _ (by omega), upd_n _ _ (by omega), upd_s]
  have mv1 : reg M b (27 + 4 * j) = v0 := by rw [hM, reg_si, reg_si, upd_n _ _ (by omega), upd_s]
  have mv2 : reg M b (28 + 4 * j) = v1 := by rw [hM, reg_si, upd_s]
  have oM : onlyR b m M := by rw [hM]; exact onlyR_tr (onlyR_si _ _ (by omega)) (onlyR_tr (onlyR_si _ _ (by omega)) (onlyR_si _ _ (by omega)))
  have eG : ∀ k, (k < 5 ∨ (7 ≤ k ∧ k < 25) ∨ (49 ≤ k ∧ k < 105)) → reg M b k = reg m b k := fun k hk => eM k (by omega)
  have eJ : ∀ i, i < 6 → reg M b (25 + 4 * i) = reg m b (25 + 4 * i) := fun i hi => eM _ (by omega)
  have hI' : InvG (reg M b) := InvG_time hI eG eJ (by rw [eM 5 (by omega)]; exact r5) (by rw [eM 6 (by omega)]; exact hI.1.2.2.2.2.2.2) (fun i hi => by
    by_cases w : i = j
    · subst w
      rw [mv0, mv1, mv2]
      exact Or.inr ⟨r5, h0, h0', h1⟩
    · rw [eM _ (by omega), eM _ (by omega), eM _ (by omega)]; exact (hI.2.2.1 i hi).2) (fun u hu => by
    rw [eM 6 (by omega)] at hu
    obtain ⟨p1, p2, p3, p4⟩ := hI.2.2.2.2.2.2 u hu
    exact ⟨by rw [eM _ (by omega)]; exact p1, by rw [eM _ (by omega)]; exact p2, by rw [eM _ (by omega)]; exact p3, fun i hi => by
      rw [eM (106 + 21 * u) (by omega)] at hi
      rw [eM _ (by omega), eM _ (by omega), eM _ (by omega)]; exact p4 i hi⟩)
  obtain ⟨-, ⟨-, -, -, -, -, s5, s6⟩, -, hb, hpp⟩ := id hR
  have hR' : RL C s (reg M b) := RL_time hI hR (fun a k _ ha2 ha3 => eC a k (by omega)) eG eJ (by rw [eC _ _ (by omega), eM 5 (by omega)]; exact s5) (by rw [eC _ _ (by omega), eM 6 (by omega)]; exact s6) (fun i k hi hk => by
      rw [eM 1 (by omega)]
      by_cases w : i = j
      · subst w
        rw [if_pos hj]
        have : k = 0 ∨ k = 1 ∨ k = 2 := by omega
        rcases this with rfl | rfl | rfl
        · show gi C (s + 18) (3 * i) = reg M b (26 + 4 * i)
          rw [cv0, mv0]; exact s5
        · rw [cv1, show 26 + 4 * i + 1 = 27 + 4 * i by omega, mv1]
        · rw [cv2, show 26 + 4 * i + 2 = 28 + 4 * i by omega, mv2]
      · rw [eC _ _ (by omega), eM _ (by omega)]
        exact hb i k hi hk) (fun u hu => by
      rw [eM 6 (by omega)] at hu
      exact ⟨by rw [eC _ _ (by omega), eM _ (by omega)]; exact (hpp u hu).1, fun i k hi hk => by rw [eC _ _ (by omega), eM (106 + 21 * u) (by omega), eM (107 + 21 * u + 3 * i + k) (by omega)]; exact (hpp u hu).2 i k hi hk⟩)
  refine ⟨C, M, ?_, ?_, ⟨hs, ⟨by rw [oM.1 _ _ (by omega)]; exact hb1, hb2⟩, hI', hR'⟩, ⟨fun a k ha => eC a k (by omega), fun a k => by rw [hC]; rfl⟩, oM, fun k hk => eM k (by omega), mv0, fun a k ha => eC a k (by omega)⟩
  · unfold ff_SH_boilNow
    have e1 : (nI j * 3 : Int32) = nI (3 * j) := by rw [show (3 : Int32) = nI 3 from rfl, pk_mul, Nat.mul_comm]
    rw [c_hasJ hs hI hR hj, bnd_some, if_neg (by decide), (sp_rf hs).2.2.2.2.2.2.1, (sp_ln hs).2.2.2.2.2.2.1, e1, if_pos (ixb_nI (by omega) (by omega)), st_eq, nI_1, if_pos (ixb_nI (by omega) (by omega)), st_eq, show nI (3 * j) + 2 = nI (3 * j + 2) from nI_add _ 2, if_pos (ixb_nI (by omega) (by omega)), st_eq, ix_nI (by omega), ix_nI (by omega), ix_nI (by omega), hC]
  · unfold ff_MO_boiled
    rw [show ff_MO_get m 100 5 = _ from m_g (k := 5) hb1 hb2 (by decide), bnd_some, show (25 + 4 * nI j : Int32) = nI (25 + 4 * j) from lin 25 4 j, nI_1, show 25 + 4 * j + 1 = 26 + 4 * j by omega, m_s hb1 hb2 (by omega), bnd_some, show nI (25 + 4 * j) + 2 = nI (27 + 4 * j) from by rw [show (2 : Int32) = nI 2 from rfl, nI_add]; congr 1; omega, m_s (b_si hb1) hb2 (by omega), bnd_some, show nI (25 + 4 * j) + 3 = nI (28 + 4 * j) from by rw [show (3 : Int32) = nI 3 from rfl, nI_add]; congr 1; omega, m_s (b_si (b_si hb1)) hb2 (by omega), bnd_some, hM]
theorem s_boil62 {c m : St} (h : Rel c m) {j a : Nat} {v : Int32} (hj : j < ix (reg m 0 1)) (ha : a < ix (reg m 0 0)) (hv : v = -1 ∨ (rg 5 v ∧ ix v < ix (reg m 0 0) ∧ ¬ v = nI a)) : Sim (ff_GG_boil_62 c 0 (nI j) (nI a) v) (ff_MO_boil_29 m 100 (nI j) (nI a) v) := by
  have r0 := h.2.2.2.2.2.2.1.1.1.1.2
  have ne : ¬ nI a = v := fun e => by
    rcases hv with rfl | ⟨-, -, z⟩
    · exact nI_ne_m1 (by omega) e
    · exact z e.symm
  obtain ⟨c', m', c1, m1, h', k'⟩ := s_know h
  have e0 : reg m' 0 0 = reg m 0 0 := k' 0 (by omega) (by omega)
  have e1 : reg m' 0 1 = reg m 0 1 := k' 1 (by omega) (by omega)
  obtain ⟨c2, m2, d1, d2, ⟨hs, ⟨hb1, hb2⟩, hI2, hR2⟩, oS, oR, eM, ev, eC⟩ := s_boiled (Rel_Pl h') (j := j) (v0 := nI a) (v1 := v) (by rw [e1]; exact hj) (rg_nI (by omega) (by omega)) (by rw [e0, ix_nI (by omega)]; exact ha) (by rw [e0]; exact hv)
  obtain ⟨-, -, -, -, -, -, ⟨hI', hR'⟩, -⟩ := id h'
  have hRS : RS c2 16 (reg m2 0) := RS_keep hI' hR' hR2 (fun m e _ => eC _ _ (by omega)) (eM 0 (by omega)) (fun k hk => eM k (by omega))
  have hrel : Rel c2 m2 := Rel_shR h' oS oR hI2 hRS
  have hj2 : j < ix (reg m2 0 1) := by rw [eM 1 (by omega), e1]; exact hj
  have r5 := hI'.1.2.2.2.2.2.1
  have nb : ¬ reg m2 0 (26 + 4 * j) = -1 := by
    rw [ev, r5.1]
    have := r5.2
    exact nI_ne_m1 (by omega)
  obtain ⟨y, y1, y4, y5, y6⟩ := m_opensOn hI2 (Rel_MV hrel) hj2 nb
  refine ⟨nI (OP (reg m2 0) (-1) j), c2, y, ?_, ?_, Rel_find hrel y4 y5 y6⟩
  · unfold ff_GG_boil_62
    rw [show rf 0 0 = 16 from rfl, c1, bnd_some, d1, bnd_some, c_openingOf hs hI2 hRS hj2, bnd_some]
    unfold OPI
    rw [if_neg nb]
  · unfold ff_MO_boil_29
    rw [if_neg ne, m1, bnd_some, d2, bnd_some, y1, bnd_some]
theorem s_boil {c m : St} (h : Rel c m) (j a v : Int32) : Sim (ff_GG_boil c 0 j a v) (ff_MO_boil m 100 j a v) := by
  have hV := Rel_MV h
  obtain ⟨-, -, -, -, -, -, ⟨hI, hR⟩, -⟩ := id h
  have r0 := hI.1.1
  have r02 := r0.2
  have r1 := hI.1.2.1
  have hz : gi c (rf (rf 0 0) 0) 3 = reg m 0 0 := hR.1.2.1.1
  have hz1 : gi c (rf (rf 0 0) 1) 3 = reg m 0 1 := hR.1.2.1.2.1
  unfold ff_GG_boil ff_MO_boil
  rw [p_has, bnd_some, m_isJ hV r1, bnd_some, hz1]
  by_cases q : hs j (reg m 0 1) = 0
  · rw [if_pos q, if_pos q]; exact Sim_bad h
  · obtain ⟨k, k1, rfl⟩ := hs_k r1 (by decide) q
    rw [if_neg q, if_neg q, p_has, bnd_some, m_isM hV r0, bnd_some, hz]
    by_cases q2 : hs a (reg m 0 0) = 0
    · rw [if_pos q2, if_pos q2]; exact Sim_bad h
    · obtain ⟨i, i1, rfl⟩ := hs_k r0 (by decide) q2
      rw [if_neg q2, if_neg q2]
      by_cases q3 : v = -1
      · rw [if_pos q3, if_pos q3]; exact s_boil62 h k1 i1 (Or.inl q3)
      · rw [if_neg q3, if_neg q3, p_has, bnd_some, m_isM hV r0, bnd_some, hz]
        by_cases q4 : hs v (reg m 0 0) = 0
        · rw [if_pos q4, if_pos q4]; exact Sim_bad h
        · obtain ⟨l, l1, rfl⟩ := hs_k r0 (by decide) q4
          rw [if_neg q4, if_neg q4]
          by_cases q5 : nI l = nI i
          · rw [if_pos q5]
            unfold ff_MO_boil_29
            rw [if_pos q5.symm]; exact Sim_bad h
          · rw [if_neg q5]
            exact s_boil62 h k1 i1 (Or.inr ⟨rg_nI (by omega) (by omega), by rw [ix_nI (by omega)]; exact l1, q5⟩)
