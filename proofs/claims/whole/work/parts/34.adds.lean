theorem RS_keep {c c' : St} {s : Nat} {g g' : Nat → Int32} (hI : InvG g) (h : RS c s g) (hR' : RL c' s g') (hrow : ∀ m e, m < 6 → gi c' (s + 12 + m) e = gi c (s + 12 + m) e) (h0 : g' 0 = g 0) (hk : ∀ k, (k = 3 ∨ (7 ≤ k ∧ k < 25) ∨ (57 ≤ k ∧ k < 87)) → g' k = g k) : RS c' s g' := by
  have r0 := hI.1.1.2
  have r3 := hI.1.2.2.2.1.2
  refine ⟨hR', fun m hm e he => ?_⟩
  rw [h0] at hm
  rw [hrow m e (by omega), h.2 m hm e he, GR_cg (hk 3 (by omega)) (hk _ (by omega)) (hk _ (by omega)) (fun f hf => ⟨hk _ (by omega), hk _ (by omega), hk _ (by omega)⟩)]
theorem s_joint {c m : St} (h : Rel c m) (a : Int32) : Sim (ff_GG_joint c 0 a) (ff_MO_joint m 100 a) := by
  have hV := Rel_MV h
  have hP := Rel_Pl h
  obtain ⟨-, -, -, -, -, -, ⟨hI, hR⟩, -⟩ := id h
  have r0 := hI.1.2.1
  have r02 := r0.2
  unfold ff_GG_joint ff_MO_joint
  rw [p_within, bnd_some, p_in, bnd_some]
  by_cases q : wn a 0 99 = 0
  · rw [if_pos q, if_pos q]; exact Sim_bad h
  · rw [if_neg q, if_neg q, fl1 h, bnd_some, show ff_MO_get m 100 1 = some (nI (ix (reg m 0 1)), m) from m_getN hV (k := 1) (by decide) r0, bnd_some]
    by_cases z : ix (reg m 0 1) < 6
    · rw [if_pos z, if_pos (by decide), if_neg (show ¬ nI (ix (reg m 0 1)) = 6 from fun e => (eq6 (L := 6) r02 (by decide)).mp e z)]
      obtain ⟨c', m', c1, m1, ⟨-, ⟨hb, -⟩, hI', hR'⟩, hS, hN, hrow⟩ := adJ hP rfl z (wn_rg (b := 99) (by decide) q)
      obtain ⟨n1, n2, n3, n4⟩ := id hN
      refine ⟨nI (ix (reg m 0 1)), c', m', by rw [show rf 0 0 = 16 from rfl, c1, bnd_some], ?_, ?_⟩
      · rw [m1, bnd_some, show ff_MO_get m' 100 1 = some (reg m' 0 1, m') from m_g (k := 1) hb (by decide) (by decide), bnd_some, n3, nI_pred]
      · exact Rel_shR h hS n1 hI' (RS_keep hI hR hR' (fun m e _ => hrow _ _ (by omega)) (n2 0 (by omega) (by omega)) (fun k hk => n2 k (by omega) (by omega)))
    · rw [if_neg z, if_neg (by decide), if_pos (show nI (ix (reg m 0 1)) = 6 from (eq6 (L := 6) r02 (by decide)).mpr z)]; exact Sim_full h
theorem m_isSet {x : St} {b : Nat} {g : Nat → Int32} (hV : MV x b g) (v : Int32) : ff_MO_isSet x 100 v = some (wn v 1 ((1 <<< (g 1 &&& 31)) - 1), x) := by
  unfold ff_MO_isSet
  rw [show ff_MO_get x 100 1 = some (g 1, x) from m_get (k := 1) hV (by decide), bnd_some, p_in, bnd_some, if_pos (zb_wn _ _ _)]
theorem set_rg {v : Int32} {g : Nat → Int32} (hI : InvG g) (h : ¬ wn v 1 ((1 <<< (g 1 &&& 31)) - 1) = 0) : rg (2 ^ ix (g 1) - 1) v ∧ 0 < ix v := by
  have r1 := hI.1.2.1
  have r12 := r1.2
  have hp : 0 < 2 ^ ix (g 1) := Nat.pow_pos (by decide)
  have h64 : 2 ^ ix (g 1) ≤ 2 ^ 6 := Nat.pow_le_pow_right (by decide) r12
  rw [r1.1, sh_nI (by omega), show nI (2 ^ ix (g 1)) - 1 = nI (2 ^ ix (g 1) - 1) from pk_sub (b := 1) (by omega)] at h
  obtain ⟨n, n1, n2, rfl⟩ := wn_nat (a := 1) (by decide) (by omega) h
  exact ⟨rg_nI n2 (by omega), by rw [ix_nI (by omega)]; omega⟩
theorem s_piece {c m : St} (h : Rel c m) (a d : Int32) : Sim (ff_GG_piece c 0 a d) (ff_MO_piece m 100 a d) := by
  have hV := Rel_MV h
  have hP := Rel_Pl h
  obtain ⟨-, -, -, -, -, -, ⟨hI, hR⟩, -⟩ := id h
  have r0 := hI.1.2.2.1
  have r02 := r0.2
  have hz : gi c (rf (rf 0 0) 1) 3 = reg m 0 1 := hR.1.2.1.2.1
  unfold ff_GG_piece ff_MO_piece ff_SH_allJoints
  rw [bnd_some, hz, p_within, bnd_some, m_isSet hV, bnd_some]
  by_cases q : wn a 1 ((1 <<< (reg m 0 1 &&& 31)) - 1) = 0
  · rw [if_pos q, if_pos q]; exact Sim_bad h
  · rw [if_neg q, if_neg q, p_within, bnd_some, p_in, bnd_some]
    by_cases q2 : wn d 0 99 = 0
    · rw [if_pos q2, if_pos q2]; exact Sim_bad h
    · rw [if_neg q2, if_neg q2, fl2 h, bnd_some, show ff_MO_get m 100 2 = some (nI (ix (reg m 0 2)), m) from m_getN hV (k := 2) (by decide) r0, bnd_some]
      by_cases z : ix (reg m 0 2) < 4
      · rw [if_pos z, if_pos (by decide), if_neg (show ¬ nI (ix (reg m 0 2)) = 4 from fun e => (eq6 (L := 4) r02 (by decide)).mp e z)]
        obtain ⟨c', m', c1, m1, ⟨-, ⟨hb, -⟩, hI', hR'⟩, hS, hN, hrow⟩ := adP hP rfl z (set_rg hI q).1 (set_rg hI q).2 (wn_rg (b := 99) (by decide) q2)
        obtain ⟨n1, n2, n3, n4⟩ := id hN
        refine ⟨nI (ix (reg m 0 2)), c', m', by rw [show rf 0 0 = 16 from rfl, c1, bnd_some], ?_, ?_⟩
        · rw [m1, bnd_some, show ff_MO_get m' 100 2 = some (reg m' 0 2, m') from m_g (k := 2) hb (by decide) (by decide), bnd_some, n3, nI_pred]
        · exact Rel_shR h hS n1 hI' (RS_keep hI hR hR' (fun m e _ => hrow _ _ (by omega)) (n2 0 (by omega) (by omega)) (fun k hk => n2 k (by omega) (by omega)))
      · rw [if_neg z, if_neg (by decide), if_pos (show nI (ix (reg m 0 2)) = 4 from (eq6 (L := 4) r02 (by decide)).mpr z)]; exact Sim_full h
theorem s_feast {c m : St} (h : Rel c m) (a d f : Int32) : Sim (ff_GG_feast c 0 a d f) (ff_MO_feast m 100 a d f) := by
  have hV := Rel_MV h
  have hP := Rel_Pl h
  obtain ⟨-, -, -, -, -, -, ⟨hI, hR⟩, -⟩ := id h
  have r0 := hI.1.1
  have r02 := r0.2
  have r3 := hI.1.2.2.2.1
  have r32 := r3.2
  have hz : gi c (rf (rf 0 0) 0) 3 = reg m 0 0 := hR.1.2.1.1
  unfold ff_GG_feast ff_MO_feast
  rw [p_within, bnd_some, p_in, bnd_some]
  by_cases q : wn a 0 1 = 0
  · rw [if_pos q, if_pos q]; exact Sim_bad h
  · rw [if_neg q, if_neg q, p_within, bnd_some, p_in, bnd_some]
    by_cases q2 : wn d 1 99 = 0
    · rw [if_pos q2, if_pos q2]; exact Sim_bad h
    · obtain ⟨e, e1, e2, rfl⟩ := wn_nat (a := 1) (b := 99) (by decide) (by decide) q2
      rw [if_neg q2, if_neg q2, p_has, bnd_some, m_isM hV r0, bnd_some, hz]
      by_cases q3 : hs f (reg m 0 0) = 0
      · rw [if_pos q3, if_pos q3]; exact Sim_bad h
      · obtain ⟨k, k1, rfl⟩ := hs_k r0 (by decide) q3
        rw [if_neg q3, if_neg q3, fl3 h, bnd_some, show ff_MO_get m 100 3 = some (nI (ix (reg m 0 3)), m) from m_getN hV (k := 3) (by decide) r3, bnd_some]
        by_cases z : ix (reg m 0 3) < 10
        · rw [if_pos z, if_pos (by decide), if_neg (show ¬ nI (ix (reg m 0 3)) = 10 from fun e => (eq6 (L := 10) r32 (by decide)).mp e z)]
          obtain ⟨c', m', c1, m1, ⟨-, ⟨hb, -⟩, hI', hR'⟩, hS, hN, hrow⟩ := adF (v2 := nI k) hP rfl z (wn_rg (b := 1) (by decide) q) (rg_nI e2 (by omega)) (by rw [ix_nI (by omega)]; omega) (rg_nI (by omega) (by omega)) (by rw [ix_nI (by omega)]; exact k1)
          obtain ⟨n1, n2, n3, n4⟩ := id hN
          have e0 : reg m' 0 0 = reg m 0 0 := n2 0 (by omega) (by omega)
          obtain ⟨y, y1, y2, y3⟩ := c_renew (k := k) (Or.inl rfl) hI' hR' (by rw [e0]; exact k1)
          refine ⟨nI (ix (reg m 0 3)), y, m', ?_, ?_, ?_⟩
          · unfold ff_SH_addFeast
            rw [show rf 0 0 = 16 from rfl, c1, bnd_some, y1, bnd_some, bnd_some]
          · rw [m1, bnd_some, show ff_MO_get m' 100 3 = some (reg m' 0 3, m') from m_g (k := 3) hb (by decide) (by decide), bnd_some, n3, nI_pred]
          · refine Rel_shR h (onlyS_tr hS (onlyS_of y2 (by omega) (by omega))) n1 hI' ⟨RL_only hR' y2 (by omega), fun j hj e he => ?_⟩
            rw [e0] at hj
            by_cases w : j = k
            · rw [w]; exact y3 e he
            · have n42 : reg m' 0 (59 + 3 * ix (reg m 0 3)) = nI k := by
                have := n4 2 (by omega)
                rw [show 57 + 3 * ix (reg m 0 3) + 2 = 59 + 3 * ix (reg m 0 3) by omega] at this
                exact this
              rw [y2.1 _ _ (by omega), hrow _ _ (by omega), hR.2 j hj e he, GR_ext rfl (by rw [n3, ix_nI (by omega)]) (n2 _ (by omega) (by omega)) (n2 _ (by omega) (by omega)) (fun f hf => ⟨n2 _ (by omega) (by omega), n2 _ (by omega) (by omega), n2 _ (by omega) (by omega)⟩) (by rw [n42]; exact nI_eqn (by omega) (by omega) (fun y => w y.symm))]
        · rw [if_neg z, if_neg (by decide), if_pos (show nI (ix (reg m 0 3)) = 10 from (eq6 (L := 10) r32 (by decide)).mpr z)]; exact Sim_full h
theorem s_fact {c m : St} (h : Rel c m) (a d f : Int32) : Sim (ff_GG_fact c 0 a d f) (ff_MO_fact m 100 a d f) := by
  have hV := Rel_MV h
  obtain ⟨-, -, -, -, -, -, ⟨hI, hR⟩, -⟩ := id h
  have r4 := hI.1.2.2.2.2.1
  have r42 := r4.2
  have hb : gi m 100 1 = nI 0 := h.2.2.1.1
  unfold ff_GG_fact ff_MO_fact
  rw [p_within, bnd_some, p_in, bnd_some]
  by_cases q : wn a 0 99 = 0
  · rw [if_pos q, if_pos q]; exact Sim_bad h
  · rw [if_neg q, if_neg q, p_within, bnd_some, p_in, bnd_some]
    by_cases q2 : wn d 0 99 = 0
    · rw [if_pos q2, if_pos q2]; exact Sim_bad h
    · obtain ⟨e, -, e2, rfl⟩ := wn_nat (a := 0) (b := 99) (by decide) (by decide) q2
      rw [if_neg q2, if_neg q2, p_within, bnd_some, p_in, bnd_some]
      by_cases q3 : wn f (nI e) 100 = 0
      · rw [if_pos q3, if_pos q3]; exact Sim_bad h
      · obtain ⟨k, k1, k2, rfl⟩ := wn_nat (b := 100) (by omega) (by decide) q3
        have g4 : ff_MO_get m 100 4 = some (nI (ix (reg m 0 4)), m) := m_getN hV (k := 4) (by decide) r4
        rw [if_neg q3, if_neg q3, fl4 h, bnd_some, g4, bnd_some]
        by_cases z : ix (reg m 0 4) < 6
        · rw [if_pos z, if_pos (by decide), if_neg (show ¬ nI (ix (reg m 0 4)) = 6 from fun e => (eq6 (L := 6) r42 (by decide)).mp e z)]
          obtain ⟨c', c1, c2⟩ := le_add3 (x := c) (q := 25) (n := ix (reg m 0 4)) (L := 6) (a := a) (b := nI e) (c := nI k) (hR.1.2.1.2.2.2.2.1.trans r4.1) hR.1.1.2.2.2.2.1 hR.1.1.2.2.2.2.2 z (by decide) (by show 3 * _ + 2 < 18; omega) (by decide)
          obtain ⟨M, hM, hN⟩ : ∃ M, M = si (si (si (si m 101 (0 + (87 + 3 * ix (reg m 0 4))) a) 101 (0 + (87 + 3 * ix (reg m 0 4) + 1)) (nI e)) 101 (0 + (87 + 3 * ix (reg m 0 4) + 2)) (nI k)) 101 (0 + 4) (nI (ix (reg m 0 4) + 1)) ∧ newReg 0 87 3 4 (ix (reg m 0 4)) (fun i => if i = 0 then a else if i = 1 then nI e else nI k) m M := ⟨_, rfl, r_add3 (by omega) (by omega)⟩
          obtain ⟨n1, n2, n3, n4⟩ := id hN
          have c1' : ff_LE_add c (rf (rf 0 0) 4) a (nI e) (nI k) = _ := c1
          have hc2 := c2
          unfold newRow at hc2
          rw [show rf 25 2 = 16 + 10 from rfl, show 25 = 16 + 9 from rfl] at hc2
          obtain ⟨a1, a2, a3, a4⟩ := hc2
          refine ⟨nI (ix (reg m 0 4)), c', M, by rw [c1', bnd_some], ?_, ?_⟩
          · have n3' := n3
            rw [hM] at n3' ⊢
            rw [g4, bnd_some, show (87 + 3 * nI (ix (reg m 0 4)) : Int32) = nI (87 + 3 * ix (reg m 0 4)) from lin 87 3 _, m_s hb (by decide) (by omega), bnd_some, nI_1, m_s (b_si hb) (by decide) (by omega), bnd_some, show nI (87 + 3 * ix (reg m 0 4)) + 2 = nI (87 + 3 * ix (reg m 0 4) + 2) from nI_add _ 2, m_s (b_si (b_si hb)) (by decide) (by omega), bnd_some, show (4 : Int32) = nI 4 from rfl, m_g (b_si (b_si (b_si hb))) (by decide) (by decide), bnd_some, reg_si, reg_si, reg_si, upd_n _ _ (by omega), upd_n _ _ (by omega), upd_n _ _ (by omega), show reg m 0 4 + 1 = nI (ix (reg m 0 4) + 1) from by rw [← nI_1, ← r4.1], m_s (b_si (b_si (b_si hb))) (by decide) (by decide), bnd_some, m_g (b_si (b_si (b_si (b_si hb)))) (by decide) (by decide), bnd_some, n3', nI_pred]
          · have v1 : reg M 0 (88 + 3 * ix (reg m 0 4)) = nI e := by
              have := n4 1 (by omega)
              rw [show 87 + 3 * ix (reg m 0 4) + 1 = 88 + 3 * ix (reg m 0 4) by omega] at this
              exact this
            have v2 : reg M 0 (89 + 3 * ix (reg m 0 4)) = nI k := by
              have := n4 2 (by omega)
              rw [show 87 + 3 * ix (reg m 0 4) + 2 = 89 + 3 * ix (reg m 0 4) by omega] at this
              exact this
            have v0 : reg M 0 (87 + 3 * ix (reg m 0 4)) = a := n4 0 (by omega)
            have hR' := RL_fa hI hR.1 rfl z a1 a3 n2 n3 (fun i hi => by rw [a4 i hi, n4 i hi])
            have hI' := InvG_fa hI rfl z n2 n3 (by rw [v0]; exact wn_rg (b := 99) (by decide) q) (by rw [v1]; exact rg_nI e2 (by omega)) (by rw [v2]; exact rg_nI k2 (by omega)) (by rw [v1, v2, ix_nI (by omega), ix_nI (by omega)]; omega)
            exact Rel_shR h (newRow_S c2 (by decide) (by decide)) n1 hI' (RS_keep hI hR hR' (fun m e _ => a1 _ _ (by omega) (by omega)) (n2 0 (by omega) (by omega)) (fun k hk => n2 k (by omega) (by omega)))
        · rw [if_neg z, if_neg (by decide), if_pos (show nI (ix (reg m 0 4)) = 6 from (eq6 (L := 6) r42 (by decide)).mpr z)]; exact Sim_full h
