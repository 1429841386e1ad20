/-! typing -/
theorem ty_by (v : Int64) {k : Nat} (hk : k < 8) : (((v.toUInt64 >>> ((8 * nI k : Int32).toInt64.toUInt64 &&& Int64.toUInt64 63)).toInt64).toInt32) &&& 255 = (vp_nar .byte ((((v >>> ((8 * nI k : Int32).toInt64 &&& 63)) &&& 255).toInt32).toInt8.toInt32)) &&& 255 := by
  have h1 : ((8 * nI k : Int32).toInt64.toUInt64 &&& Int64.toUInt64 63) = UInt64.ofNat (8 * k) := (by decide +kernel : ∀ k : Fin 8, ((8 * nI k.val : Int32).toInt64.toUInt64 &&& Int64.toUInt64 63) = UInt64.ofNat (8 * k.val)) ⟨k, hk⟩
  have h2 : ((8 * nI k : Int32).toInt64 &&& 63) = lN (8 * k) := (by decide +kernel : ∀ k : Fin 8, ((8 * nI k.val : Int32).toInt64 &&& 63) = lN (8 * k.val)) ⟨k, hk⟩
  have h3 : ((UInt64.ofNat (8 * k)).toBitVec % 64#64).toNat = 8 * k := (by decide +kernel : ∀ k : Fin 8, ((UInt64.ofNat (8 * k.val)).toBitVec % 64#64).toNat = 8 * k.val) ⟨k, hk⟩
  have h4 : ((lN (8 * k)).toBitVec.smod 64#64).toNat = 8 * k := (by decide +kernel : ∀ k : Fin 8, ((lN (8 * k.val)).toBitVec.smod 64#64).toNat = 8 * k.val) ⟨k, hk⟩
  rw [h1, h2]
  apply Int32.toBitVec_inj.1
  show ((v.toBitVec >>> ((UInt64.ofNat (8 * k)).toBitVec % 64#64)).signExtend 32) &&& 255#32 = ((((((v.toBitVec.sshiftRight' ((lN (8 * k)).toBitVec.smod 64#64)) &&& 255#64).signExtend 32).signExtend 8).signExtend 32).signExtend 8).signExtend 32 &&& 255#32
  apply BitVec.eq_of_getLsbD_eq
  intro i hi
  have h255 : (255#32).getLsbD i = decide (i < 8) := (by decide +kernel : ∀ i : Fin 32, (255#32).getLsbD i.val = decide (i.val < 8)) ⟨i, hi⟩
  rw [BitVec.getLsbD_and, BitVec.getLsbD_and, h255]
  by_cases z : i < 8
  · have h255' : (255#64).getLsbD i = true := (by decide +kernel : ∀ i : Fin 8, (255#64).getLsbD i.val = true) ⟨i, z⟩
    have i64 : i < 64 := by omega
    have se : ∀ {w : Nat} (y : BitVec w) (n : Nat), i < w → i < n → (y.signExtend n).getLsbD i = y.getLsbD i := fun y n h1 h2 => by
      rw [BitVec.getLsbD_signExtend, if_pos h1, decide_eq_true h2, Bool.true_and]
    congr 1
    rw [se _ _ i64 hi, BitVec.ushiftRight_eq', BitVec.getLsbD_ushiftRight, h3, se _ _ z hi, se _ _ hi z, se _ _ z hi, se _ _ hi z, se _ _ i64 hi, BitVec.getLsbD_and, h255', Bool.and_true, BitVec.sshiftRight', BitVec.getLsbD_sshiftRight, h4, if_pos (by omega)]
    simp
    omega
  · rw [show decide (i < 8) = false from by simp [z], Bool.and_false, Bool.and_false]
theorem s_typeL (v : Int64) : ∀ (r N M t : Nat) (c m : St), r < N → r < M → r ≤ 8 → Rel c m → gi m 100 7 = nI t → t + r ≤ 250 → Sim (ff_GG_type_40 N c 0 v (nI r - 1)) (ff_MO_type_37 M m 100 v (nI r - 1)) := by
  intro r
  induction r with
  | zero =>
    intro N M t c m hN hM hr h ht hl
    obtain ⟨N, rfl⟩ : ∃ K, N = K + 1 := ⟨N - 1, by omega⟩
    obtain ⟨M, rfl⟩ : ∃ K, M = K + 1 := ⟨M - 1, by omega⟩
    refine ⟨gi m 100 7, c, m, ?_, ?_, h⟩
    · show (if nI 0 - 1 < 0 then some (gi c (rf 0 3) 1, c) else _) = _
      rw [if_pos (by decide), show gi c (rf 0 3) 1 = gi m 100 7 from h.2.2.2.1.1]
    · show (if nI 0 - 1 < 0 then _ else _) = _
      rw [if_pos (by decide)]
  | succ r ih =>
    intro N M t c m hN hM hr h ht hl
    obtain ⟨N, rfl⟩ : ∃ K, N = K + 1 := ⟨N - 1, by omega⟩
    obtain ⟨M, rfl⟩ : ∃ K, M = K + 1 := ⟨M - 1, by omega⟩
    obtain ⟨e1, e2, e3⟩ := h.2.2.2.1
    have hc : gi c 3 1 = nI t := by rw [e1, ht]
    rw [nI_pred]
    have em : (nI r + (-1) : Int32) = nI r - 1 := (Int32.sub_eq_add_neg _ _).symm
    have hb := ty_by v (k := r) (by omega)
    obtain ⟨y, hy⟩ : ∃ y, y = (((v.toUInt64 >>> ((8 * nI r : Int32).toInt64.toUInt64 &&& Int64.toUInt64 63)).toInt64).toInt32) &&& 255 := ⟨_, rfl⟩
    obtain ⟨z, hz⟩ : ∃ z, z = vp_nar .byte ((((v >>> ((8 * nI r : Int32).toInt64 &&& 63)) &&& 255).toInt32).toInt8.toInt32) := ⟨_, rfl⟩
    rw [← hy, ← hz] at hb
    have eC : ff_GG_type_40 (N + 1) c 0 v (nI r) = ff_GG_type_40 N (si (si c 4 t y) 3 1 (nI (t + 1))) 0 v (nI r - 1) := by
      show (if nI r < 0 then _ else bnd (ff_RE_addByte c (rf 0 3) ((((v.toUInt64 >>> ((8 * nI r : Int32).toInt64.toUInt64 &&& Int64.toUInt64 63)).toInt64).toInt32) &&& 255)) _) = _
      rw [if_neg (nI_pos (by omega)), ← hy, show rf 0 3 = 3 from rfl]
      unfold ff_RE_addByte
      rw [hc, if_neg (show ¬ (250 : Int32) ≤ nI t from nI_ge (b := 250) (by omega) (by decide)), show rf 3 0 = 4 from rfl, show ln 4 = 250 from rfl, if_pos (ixb_nI (by omega) (by omega)), st_eq, ix_nI (by omega), gi_si_n _ _ _ _ (by omega), hc, nI_1, st_eq, bnd_some, em]
    have eM : ff_MO_type_37 (M + 1) m 100 v (nI r) = ff_MO_type_37 M (si (si m 104 t z) 100 7 (nI (t + 1))) 100 v (nI r - 1) := by
      show (if nI r < 0 then _ else (if ixb (gi m 100 7) (ln (rf 100 6)) = true then st (si m (rf 100 6) (ix (gi m 100 7)) (vp_nar .byte ((((v >>> ((8 * nI r : Int32).toInt64 &&& 63)) &&& 255).toInt32).toInt8.toInt32))) _ else none)) = _
      rw [if_neg (nI_pos (by omega)), ← hz, ht, show rf 100 6 = 104 from rfl, show ln 104 = 250 from rfl, if_pos (ixb_nI (by omega) (by omega)), st_eq, ix_nI (by omega), gi_si_n _ _ _ _ (by omega), ht, nI_1, st_eq, em]
    rw [eC, eM]
    refine ih N M (t + 1) _ _ (by omega) (by omega) (by omega) (Rel_text h (fun a k h1 h2 => by rw [gi_si_n _ _ _ _ h2, gi_si_n _ _ _ _ (by omega)]) (fun _ _ => rfl) (fun a k h1 h2 => by rw [gi_si_n _ _ _ _ h2, gi_si_n _ _ _ _ (by omega)]) (fun _ _ => rfl) (by rw [gi_si_s, gi_si_s]) (by rw [gi_si_s]; exact rg_nI (by omega) (by omega)) (fun i hi => ?_)) (gi_si_s _ _ _ _) (by omega)
    rw [gi_si_s, ix_nI (by omega)] at hi
    rw [gi_si_n _ _ _ _ (by omega), gi_si_n (a := 104) (b := i) _ _ _ _ (by omega)]
    by_cases w : i = t
    · subst w
      rw [gi_si_s, gi_si_s]; exact hb
    · rw [gi_si_n _ _ _ _ (by omega), gi_si_n _ _ _ _ (by omega)]
      exact e3 i (by rw [ht, ix_nI (by omega)]; omega)
theorem s_type {c m : St} (h : Rel c m) (v : Int64) (n : Int32) : Sim (ff_GG_type c 0 v n) (ff_MO_type m 100 v n) := by
  obtain ⟨e1, e2, e3⟩ := h.2.2.2.1
  have e22 := e2.2
  unfold ff_GG_type ff_MO_type
  rw [p_within, bnd_some, p_in, bnd_some]
  by_cases q : wn n 1 8 = 0
  · rw [if_pos q, if_pos q]; exact Sim_bad h
  · obtain ⟨k, k1, k2, rfl⟩ := wn_nat (a := 1) (b := 8) (by decide) (by decide) q
    rw [if_neg q, if_neg q, show gi c (rf 0 3) 1 = gi m 100 7 from e1, e2.1, nI_add]
    by_cases z : ix (gi m 100 7) + k ≤ 250
    · have z' : nI (ix (gi m 100 7) + k) ≤ 250 := nI_le (b := 250) z (by decide)
      rw [if_pos z', if_pos z']
      exact s_typeL v k FU FU (ix (gi m 100 7)) c m (by unfold FU; omega) (by unfold FU; omega) k2 h e2.1 z
    · have z' : ¬ nI (ix (gi m 100 7) + k) ≤ 250 := nI_ge (a := 250) (by omega) (by omega)
      rw [if_neg z', if_neg z']; exact Sim_full h
