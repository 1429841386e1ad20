theorem s_forget {c m : St} (h : Rel c m) : Sim (ff_GG_forget c 0) (ff_MO_forget m 100) := by
  obtain ⟨-, -, -, -, -, -, ⟨hI, hR⟩, -⟩ := id h
  have hb : gi m 100 1 = nI 0 := h.2.2.1.1
  have r4 := hI.1.2.2.2.2.1
  have hz : gi c (rf (rf 0 0) 4) 3 = reg m 0 4 := hR.1.2.1.2.2.2.2.1
  have eC : ∀ a k, ¬ (a = 16 + 9 ∧ k = 3) → gi (si c 25 3 0) a k = gi c a k := fun a k ha => gi_si_n _ _ _ _ ha
  have eG : ∀ k, k ≠ 4 → reg (si m 101 (0 + 4) 0) 0 k = reg m 0 k := fun k hk => by rw [reg_si, upd_n _ _ hk]
  have eZ : reg (si m 101 (0 + 4) 0) 0 4 = nI 0 := by rw [reg_si, upd_s]; rfl
  refine ⟨reg m 0 4, si c 25 3 0, si m 101 (0 + 4) 0, ?_, ?_, ?_⟩
  · unfold ff_GG_forget
    rw [st_eq, hz]; rfl
  · unfold ff_MO_forget
    rw [show (4 : Int32) = nI 4 from rfl, m_g hb (by decide) (by decide), bnd_some, m_s hb (by decide) (by decide), bnd_some]
  · exact Rel_shR h ⟨fun a k ha => gi_si_n _ _ _ _ (by omega), fun _ _ => rfl⟩ (onlyR_si _ _ (by decide)) (InvG_low4 hI (Nat.zero_le _) eG eZ) (RS_keep hI hR (RL_low4 hI hR.1 (Nat.zero_le _) eC (gi_si_s _ _ _ _) eG eZ) (fun m e _ => eC _ _ (by omega)) (eG 0 (by omega)) (fun k hk => eG k (by omega)))
theorem s_skip {c m : St} (h : Rel c m) : Sim (ff_GG_skip c 0) (ff_MO_skip m 100) := by
  obtain ⟨-, -, -, -, -, -, ⟨hI, hR⟩, -⟩ := id h
  have hb : gi m 100 1 = nI 0 := h.2.2.1.1
  have r3 := hI.1.2.2.2.1
  have r32 := r3.2
  have hz : gi c 23 3 = reg m 0 3 := hR.1.2.1.2.2.2.1
  unfold ff_GG_skip ff_MO_skip
  rw [show (3 : Int32) = nI 3 from rfl, m_g hb (by decide) (by decide), bnd_some, show rf (rf 0 0) 3 = 23 from rfl, hz]
  by_cases q : reg m 0 3 = 0
  · rw [if_pos q, if_pos q]; exact Sim_no h
  · rw [if_neg q, if_neg q]
    obtain ⟨n, hn⟩ : ∃ n, ix (reg m 0 3) = n + 1 := ⟨ix (reg m 0 3) - 1, by
      have : ¬ ix (reg m 0 3) = 0 := fun e => q (by rw [r3.1, e]; rfl)
      omega⟩
    have hz2 : reg m 0 3 = nI (n + 1) := by rw [← hn]; exact r3.1
    obtain ⟨f0, f1, f2, f3, f4⟩ := hI.2.2.2.2.1 n (by omega)
    have f32 := f3.2
    have r02 := hI.1.1.2
    have e0 := at_fe (Or.inl rfl) hI hR.1 (i := n) (c := 2) (by omega) (by decide)
    rw [show 57 + 3 * n + 2 = 59 + 3 * n by omega, f3.1] at e0
    have eC : ∀ a k, ¬ (a = 16 + 7 ∧ k = 3) → gi (si c 23 3 (nI n)) a k = gi c a k := fun a k ha => gi_si_n _ _ _ _ ha
    have eG : ∀ k, k ≠ 3 → reg (si m 101 (0 + 3) (nI n)) 0 k = reg m 0 k := fun k hk => by rw [reg_si, upd_n _ _ hk]
    have eZ : reg (si m 101 (0 + 3) (nI n)) 0 3 = nI n := by rw [reg_si, upd_s]
    have hI' := InvG_low3 hI (by omega) eG eZ
    have hR' := RL_low3 hI hR.1 (by omega) eC (gi_si_s _ _ _ _) eG eZ
    have e00 : reg (si m 101 (0 + 3) (nI n)) 0 0 = reg m 0 0 := eG 0 (by omega)
    obtain ⟨y, y1, y2, y3⟩ := c_renew (k := ix (reg m 0 (59 + 3 * n))) (Or.inl rfl) hI' hR' (by rw [e00]; exact f4)
    have hc : onlyS 16 c (si c 23 3 (nI n)) := ⟨fun a k ha => gi_si_n _ _ _ _ (by omega), fun _ _ => rfl⟩
    refine ⟨nI n, y, si m 101 (0 + 3) (nI n), ?_, ?_, ?_⟩
    · unfold ff_SH_dropFeast ff_LE_dropLast
      rw [show rf 0 0 = 16 from rfl, show rf 16 3 = 23 from rfl, hz, hz2, nI_pred, show (2 : Int32) = nI 2 from rfl, show ff_LE_at c 23 (nI n) (nI 2) = some (nI (ix (reg m 0 (59 + 3 * n))), c) from e0, bnd_some, hz, hz2, if_neg (show ¬ nI (n + 1) ≤ 0 from nI_ge (a := 0) (by omega) (by omega)), st_eq, nI_pred, bnd_some, y1, bnd_some, bnd_some, y2.1 _ _ (by omega), gi_si_s]
    · rw [m_g hb (by decide) (by decide), bnd_some, hz2, nI_pred, m_s hb (by decide) (by decide), bnd_some, m_g (b_si hb) (by decide) (by decide), bnd_some, eZ]
    · refine Rel_shR h (onlyS_tr hc (onlyS_of y2 (by omega) (by omega))) (onlyR_si _ _ (by decide)) hI' ⟨RL_only hR' y2 (by omega), fun j hj e he => ?_⟩
      rw [e00] at hj
      by_cases w : j = ix (reg m 0 (59 + 3 * n))
      · rw [w]; exact y3 e he
      · rw [y2.1 _ _ (by omega), eC _ _ (by omega), hR.2 j hj e he, GR_ext (g := reg (si m 101 (0 + 3) (nI n)) 0) (g' := reg m 0) (n := n) (by rw [eZ, ix_nI (by omega)]) hn (eG _ (by omega)).symm (eG _ (by omega)).symm (fun f hf => ⟨(eG _ (by omega)).symm, (eG _ (by omega)).symm, (eG _ (by omega)).symm⟩) (by rw [f3.1]; exact nI_eqn (by omega) (by omega) (fun y => w y.symm))]
