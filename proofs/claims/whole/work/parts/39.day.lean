theorem bc64 : ∀ z : Fin 64, ∀ x : St, ff_IN_bitCount x (nI z.val) = some (nI (z.val / 1 % 2 + z.val / 2 % 2 + z.val / 4 % 2 + z.val / 8 % 2 + z.val / 16 % 2 + z.val / 32 % 2), x) := by
  intro z x
  have key : ∀ z : Fin 64, (let v0 := nI z.val; let a := v0 - (((v0.toUInt32 >>> ((1 : Int32).toUInt32 &&& Int32.toUInt32 31)).toInt32) &&& 1431655765); let b := (a &&& 858993459) + (((a.toUInt32 >>> ((2 : Int32).toUInt32 &&& Int32.toUInt32 31)).toInt32) &&& 858993459); let d := (b + ((b.toUInt32 >>> ((4 : Int32).toUInt32 &&& Int32.toUInt32 31)).toInt32)) &&& 252645135; let e := d + ((d.toUInt32 >>> ((8 : Int32).toUInt32 &&& Int32.toUInt32 31)).toInt32); let f := e + ((e.toUInt32 >>> ((16 : Int32).toUInt32 &&& Int32.toUInt32 31)).toInt32); f &&& 63) = nI (z.val / 1 % 2 + z.val / 2 % 2 + z.val / 4 % 2 + z.val / 8 % 2 + z.val / 16 % 2 + z.val / 32 % 2) := by decide +kernel
  have := key z
  unfold ff_IN_bitCount ff_IN_bitCount_10 ff_IN_bitCount_24 ff_IN_bitCount_34 ff_IN_bitCount_41 ff_IN_bitCount_48
  simp only [li_eq]
  exact congrArg (fun v => some (v, x)) this
theorem d39 (x : St) (z : Nat) (hz : z < 2 ^ 31) : ff_MO_day_39 FU x (nI z) 0 0 = some (nI (z / 1 % 2 + z / 2 % 2 + z / 4 % 2 + z / 8 % 2 + z / 16 % 2 + z / 32 % 2), x) := by
  have st1 : ∀ (N v k : Nat), k < 6 → ff_MO_day_39 (N + 1) x (nI z) (nI v) (nI k) = ff_MO_day_39 N x (nI z) (nI (v + z / 2 ^ k % 2)) (nI (k + 1)) := by
    intro N v k hk
    show (if (6 : Int32) ≤ nI k then _ else _) = _
    rw [if_neg (show ¬ (6 : Int32) ≤ nI k from nI_ge (b := 6) (by omega) (by decide)), li_eq, bt_nI hz (by omega), nI_add, nI_1]
  show ff_MO_day_39 (1993 + 1 + 1 + 1 + 1 + 1 + 1 + 1) x (nI z) (nI 0) (nI 0) = _
  rw [st1 _ _ _ (by decide), st1 _ _ _ (by decide), st1 _ _ _ (by decide), st1 _ _ _ (by decide), st1 _ _ _ (by decide), st1 _ _ _ (by decide)]
  show (if (6 : Int32) ≤ nI 6 then some (nI (0 + z / 2 ^ 0 % 2 + z / 2 ^ 1 % 2 + z / 2 ^ 2 % 2 + z / 2 ^ 3 % 2 + z / 2 ^ 4 % 2 + z / 2 ^ 5 % 2), x) else _) = _
  rw [if_pos (by decide), Nat.zero_add]
theorem s_day {c m : St} (h : Rel c m) (d : Int32) : Sim (ff_GG_day c 0 d) (ff_MO_day m 100 d) := by
  obtain ⟨-, -, -, -, -, -, ⟨hI, hR⟩, -⟩ := id h
  have r5 := hI.1.2.2.2.2.2.1
  have r52 := r5.2
  have hb : gi m 100 1 = nI 0 := h.2.2.1.1
  have hz : gi c (rf 0 0) 9 = reg m 0 5 := hR.1.2.1.2.2.2.2.2.1
  unfold ff_GG_day ff_MO_day
  rw [hz, p_within, bnd_some, show ff_MO_get m 100 5 = _ from m_g (k := 5) hb (by decide) (by decide), bnd_some, p_in, bnd_some]
  by_cases q : wn d (reg m 0 5) 99 = 0
  · rw [if_pos q, if_pos q]; exact Sim_bad h
  · rw [if_neg q, if_neg q]
    rw [r5.1] at q
    obtain ⟨e, e1, e2, rfl⟩ := wn_nat (b := 99) (by omega) (by decide) q
    obtain ⟨c', m', c1, m1, h', -⟩ := s_know h
    obtain ⟨-, -, -, -, -, -, ⟨hI', hR'⟩, -⟩ := id h'
    have hb' : gi m' 100 1 = nI 0 := h'.2.2.1.1
    have eC : ∀ a k, ¬ (a = 16 ∧ k = 9) → gi (si c' 16 9 (nI e)) a k = gi c' a k := fun a k ha => gi_si_n _ _ _ _ ha
    have eM : ∀ k, k ≠ 5 → reg (si m' 101 (0 + 5) (nI e)) 0 k = reg m' 0 k := fun k hk => by rw [reg_si, upd_n _ _ hk]
    have ev : reg (si m' 101 (0 + 5) (nI e)) 0 5 = nI e := by rw [reg_si, upd_s]
    have eG : ∀ k, (k < 5 ∨ (7 ≤ k ∧ k < 25) ∨ (49 ≤ k ∧ k < 105)) → reg (si m' 101 (0 + 5) (nI e)) 0 k = reg m' 0 k := fun k hk => eM k (by omega)
    have eJ : ∀ i, i < 6 → reg (si m' 101 (0 + 5) (nI e)) 0 (25 + 4 * i) = reg m' 0 (25 + 4 * i) := fun i hi => eM _ (by omega)
    have hI2 : InvG (reg (si m' 101 (0 + 5) (nI e)) 0) := InvG_time hI' eG eJ (by rw [ev]; exact rg_nI e2 (by omega)) (by rw [eM 6 (by omega)]; exact hI'.1.2.2.2.2.2.2) (fun i hi => by rw [eM _ (by omega), eM _ (by omega), eM _ (by omega)]; exact (hI'.2.2.1 i hi).2) (fun u hu => by
      rw [eM 6 (by omega)] at hu
      obtain ⟨p1, p2, p3, p4⟩ := hI'.2.2.2.2.2.2 u hu
      exact ⟨by rw [eM _ (by omega)]; exact p1, by rw [eM _ (by omega)]; exact p2, by rw [eM _ (by omega)]; exact p3, fun i hi => by
        rw [eM (106 + 21 * u) (by omega)] at hi
        rw [eM _ (by omega), eM _ (by omega), eM _ (by omega)]; exact p4 i hi⟩)
    obtain ⟨-, ⟨-, -, -, -, -, s5, s6⟩, -, hbb, hpp⟩ := id hR'.1
    have hR2 : RL (si c' 16 9 (nI e)) 16 (reg (si m' 101 (0 + 5) (nI e)) 0) := RL_time hI' hR'.1 (fun a k _ _ ha3 => eC a k (by omega)) eG eJ (by rw [gi_si_s, ev]) (by rw [eC _ _ (by omega), eM 6 (by omega)]; exact s6) (fun i k hi hk => by rw [eC _ _ (by omega), eM 1 (by omega), eM (26 + 4 * i + k) (by omega)]; exact hbb i k hi hk) (fun u hu => by
      rw [eM 6 (by omega)] at hu
      exact ⟨by rw [eC _ _ (by omega), eM _ (by omega)]; exact (hpp u hu).1, fun i k hi hk => by rw [eC _ _ (by omega), eM (106 + 21 * u) (by omega), eM (107 + 21 * u + 3 * i + k) (by omega)]; exact (hpp u hu).2 i k hi hk⟩)
    have hRS : RS (si c' 16 9 (nI e)) 16 (reg (si m' 101 (0 + 5) (nI e)) 0) := RS_keep hI' hR' hR2 (fun m e _ => eC _ _ (by omega)) (eM 0 (by omega)) (fun k hk => eM k (by omega))
    have hrel : Rel (si c' 16 9 (nI e)) (si m' 101 (0 + 5) (nI e)) := Rel_shR h' ⟨fun a k ha => eC a k (by omega), fun _ _ => rfl⟩ (onlyR_si _ _ (by decide)) hI2 hRS
    obtain ⟨y, y1, y4, y5, y6⟩ := m_openNow hI2 (Rel_MV hrel)
    have r12 := hI2.1.2.1.2
    have h64 : obN (reg (si m' 101 (0 + 5) (nI e)) 0) (ix (reg (si m' 101 (0 + 5) (nI e)) 0 1)) < 64 := Nat.lt_of_lt_of_le (obN_lt _ _) (Nat.pow_le_pow_right (n := 2) (by decide) r12)
    obtain ⟨z, hz64⟩ : ∃ z : Fin 64, z.val = obN (reg (si m' 101 (0 + 5) (nI e)) 0) (ix (reg (si m' 101 (0 + 5) (nI e)) 0 1)) := ⟨⟨_, h64⟩, rfl⟩
    refine ⟨nI (z.val / 1 % 2 + z.val / 2 % 2 + z.val / 4 % 2 + z.val / 8 % 2 + z.val / 16 % 2 + z.val / 32 % 2), si c' 16 9 (nI e), y, ?_, ?_, Rel_find hrel y4 y5 y6⟩
    · rw [show rf 0 0 = 16 from rfl, c1, bnd_some, st_eq, c_openJoints (Or.inl rfl) hI2 hRS, bnd_some, ← hz64, bc64, bnd_some]
    · rw [m1, bnd_some, show ff_MO_set m' 100 5 (nI e) = _ from m_s (k := 5) hb' (by decide) (by decide) (nI e), bnd_some, y1, bnd_some, ← hz64, d39 y z.val (by omega)]
/-! undo -/
theorem m_u61 {b p j cu : Nat} (h2 : b + 315 ≤ 1260) (hp : 105 ≤ p) (hp2 : p + 21 ≤ 315) (hj : j < 6) (hcu : cu ≤ 6) (K : St → Nat → Int32 → Int32 → Option (Int32 × St)) : ∀ (r N k : Nat) (x : St), k + r = 3 → r < N → gi x 100 1 = nI b → reg x b (p + 1) = nI cu → ∃ y, ff_MO_undo_61 K N x 100 (nI p) (nI j) (nI k) = K y 100 (nI p) (nI (j + 1)) ∧ onlyR b x y ∧ (∀ i, ¬ (26 + 4 * j + k ≤ i ∧ i < 29 + 4 * j) → reg y b i = reg x b i) ∧ ∀ i, k ≤ i → i < 3 → reg y b (26 + 4 * j + i) = if j < cu then reg x b (p + 2 + 3 * j + i) else -1 := by
  intro r
  induction r with
  | zero =>
    intro N k x hk hN h1 hc
    obtain ⟨N, rfl⟩ : ∃ K, N = K + 1 := ⟨N - 1, by omega⟩
    refine ⟨x, ?_, onlyR_rf, fun _ _ => rfl, fun i _ _ => by omega⟩
    show (if (3 : Int32) ≤ nI k then _ else _) = _
    rw [if_pos (show (3 : Int32) ≤ nI k from nI_le (a := 3) (by omega) (by omega)), nI_1]
  | succ r ih =>
    intro N k x hk hN h1 hc
    obtain ⟨N, rfl⟩ : ∃ K, N = K + 1 := ⟨N - 1, by omega⟩
    obtain ⟨y, y1, y2, y3, y4⟩ := ih N (k + 1) (si x 101 (b + (26 + 4 * j + k)) (if j < cu then reg x b (p + 2 + 3 * j + k) else -1)) (by omega) (by omega) (b_si h1) (by rw [reg_si, upd_n _ _ (by omega)]; exact hc)
    refine ⟨y, ?_, onlyR_tr (onlyR_si _ _ (by omega)) y2, fun i hi => ?_, fun i hi hi2 => ?_⟩
    · rw [← y1]
      have ei : (25 + 4 * nI j + 1 + nI k : Int32) = nI (26 + 4 * j + k) := by rw [show (25 + 4 * nI j : Int32) = nI (25 + 4 * j) from lin 25 4 j, nI_1, nI_add]; congr 1; omega
      show (if (3 : Int32) ≤ nI k then _ else _) = _
      rw [if_neg (show ¬ (3 : Int32) ≤ nI k from nI_ge (b := 3) (by omega) (by decide)), nI_1, m_g h1 h2 (by omega), bnd_some, hc, ei]
      by_cases z : j < cu
      · rw [if_neg (nI_ge z (by omega)), if_pos z, show (nI p + 2 + 3 * nI j + nI k : Int32) = nI (p + 2 + 3 * j + k) from by rw [show (2 : Int32) = nI 2 from rfl, show (3 : Int32) = nI 3 from rfl, pk_mul, nI_add, nI_add, nI_add], m_g h1 h2 (by omega), bnd_some, m_s h1 h2 (by omega), bnd_some, nI_1]
      · rw [if_pos (nI_le (by omega) (by omega)), if_neg z, m_s h1 h2 (by omega), bnd_some, nI_1]
    · rw [y3 i (by omega), reg_si, upd_n _ _ (by omega)]
    · by_cases z : i = k
      · subst z
        rw [y3 _ (by omega), reg_si, upd_s]
      · rw [y4 i (by omega) hi2, reg_si, upd_n _ _ (by omega)]
theorem m_u53 {b p cu : Nat} (h2 : b + 315 ≤ 1260) (hp : 105 ≤ p) (hp2 : p + 21 ≤ 315) (hcu : cu ≤ 6) : ∀ (r N j : Nat) (x : St), j + r = 6 → r < N → gi x 100 1 = nI b → reg x b (p + 1) = nI cu → ∃ y, ff_MO_undo_53 N x 100 (nI p) (nI j) = some (1, y) ∧ onlyR b x y ∧ (∀ i, (i < 25 ∨ 49 ≤ i ∨ ∃ q, i = 25 + 4 * q) → reg y b i = reg x b i) ∧ (∀ i, i < 26 + 4 * j → reg y b i = reg x b i) ∧ ∀ j' i, j ≤ j' → j' < 6 → i < 3 → reg y b (26 + 4 * j' + i) = if j' < cu then reg x b (p + 2 + 3 * j' + i) else -1 := by
  intro r
  induction r with
  | zero =>
    intro N j x hj hN h1 hc
    obtain ⟨N, rfl⟩ : ∃ K, N = K + 1 := ⟨N - 1, by omega⟩
    refine ⟨x, ?_, onlyR_rf, fun _ _ => rfl, fun _ _ => rfl, fun j' i _ _ _ => by omega⟩
    show (if (6 : Int32) ≤ nI j then _ else _) = _
    rw [if_pos (show (6 : Int32) ≤ nI j from nI_le (a := 6) (by omega) (by omega))]
  | succ r ih =>
    intro N j x hj hN h1 hc
    obtain ⟨N, rfl⟩ : ∃ K, N = K + 1 := ⟨N - 1, by omega⟩
    obtain ⟨y, y1, y2, y3, y4⟩ := m_u61 (j := j) h2 hp hp2 (by omega) hcu (ff_MO_undo_53 N) 3 FU 0 x (by omega) (by unfold FU; omega) h1 hc
    obtain ⟨z, z1, z2, z3, z5, z4⟩ := ih N (j + 1) y (by omega) (by omega) (by rw [y2.1 _ _ (by omega)]; exact h1) (by rw [y3 _ (by omega)]; exact hc)
    refine ⟨z, ?_, onlyR_tr y2 z2, fun i hi => ?_, fun i hi => by rw [z5 i (by omega), y3 i (by omega)], fun j' i h3 h4 h5 => ?_⟩
    · rw [← z1, ← y1]
      show (if (6 : Int32) ≤ nI j then _ else _) = _
      rw [if_neg (show ¬ (6 : Int32) ≤ nI j from nI_ge (b := 6) (by omega) (by decide))]; rfl
    · rw [z3 i hi, y3 i (by rcases hi with a | a | ⟨q, a⟩ <;> omega)]
    · by_cases w : j' = j
      · subst w
        rw [z5 _ (by omega), y4 i (by omega) h5]
      · rw [z4 j' i (by omega) h4 h5, y3 _ (by omega)]
theorem s_undo {c m : St} (h : Rel c m) : Sim (ff_GG_undo c 0) (ff_MO_undo m 100) := by
  obtain ⟨-, -, -, -, -, -, ⟨hI, hR⟩, -⟩ := id h
  have r6 := hI.1.2.2.2.2.2.2
  have r62 := r6.2
  have r12 := hI.1.2.1.2
  have hb : gi m 100 1 = nI 0 := h.2.2.1.1
  obtain ⟨-, ⟨-, -, -, -, -, s5, s6⟩, -, hbb, hpp⟩ := id hR.1
  unfold ff_GG_undo ff_MO_undo
  rw [show rf 0 0 = 16 from rfl, s6, show (6 : Int32) = nI 6 from rfl, m_g hb (by decide) (by decide), bnd_some]
  by_cases q : reg m 0 6 = 0
  · rw [if_pos q, if_pos q]; exact Sim_no h
  · obtain ⟨n, hn⟩ : ∃ n, ix (reg m 0 6) = n + 1 := ⟨ix (reg m 0 6) - 1, by
      have : ¬ ix (reg m 0 6) = 0 := fun e => q (by rw [r6.1, e]; rfl)
      omega⟩
    have hz : reg m 0 6 = nI (n + 1) := by rw [← hn]; exact r6.1
    obtain ⟨p1, p2, p3, p4⟩ := hI.2.2.2.2.2.2 n (by omega)
    have p22 := p2.2
    obtain ⟨u1, u2⟩ := hpp n (by omega)
    rw [if_neg q, if_neg q]
    obtain ⟨M0, hM0⟩ : ∃ M0, M0 = si (si m 101 (0 + 6) (nI n)) 101 (0 + 5) (reg m 0 (105 + 21 * n)) := ⟨_, rfl⟩
    have hb0 : gi M0 100 1 = nI 0 := by rw [hM0]; exact b_si (b_si hb)
    have g0 : ∀ k, k ≠ 5 → k ≠ 6 → reg M0 0 k = reg m 0 k := fun k h5 h6 => by rw [hM0, reg_si, reg_si, upd_n _ _ h5, upd_n _ _ h6]
    have g5 : reg M0 0 5 = reg m 0 (105 + 21 * n) := by rw [hM0, reg_si, upd_s]
    have g6 : reg M0 0 6 = nI n := by rw [hM0, reg_si, reg_si, upd_n _ _ (by omega), upd_s]
    have o0 : onlyR 0 m M0 := by rw [hM0]; exact onlyR_tr (onlyR_si _ _ (by decide)) (onlyR_si _ _ (by decide))
    obtain ⟨M, m1, m2, m3, -, m4⟩ := m_u53 (b := 0) (p := 105 + 21 * n) (cu := ix (reg m 0 (106 + 21 * n))) (by decide) (by omega) (by omega) p22 6 FU 0 M0 (by omega) (by unfold FU; omega) hb0 (by rw [show 105 + 21 * n + 1 = 106 + 21 * n by omega, g0 _ (by omega) (by omega)]; exact p2.1)
    obtain ⟨C, hC⟩ : ∃ C, C = cpi (si (si c 16 8 (nI n)) 16 9 (reg m 0 (105 + 21 * n))) 35 (19 * n + 1) 34 0 18 := ⟨_, rfl⟩
    have eC : ∀ a k, a ≠ 34 → ¬ (a = 16 ∧ (k = 8 ∨ k = 9)) → gi C a k = gi c a k := fun a k h1 h2 => by rw [hC, gi_cpi, if_neg (by omega), gi_si_n _ _ _ _ (by omega), gi_si_n _ _ _ _ (by omega)]
    have cb : ∀ i, i < 18 → gi C 34 i = gi c 35 (19 * n + 1 + i) := fun i hi => by rw [hC, gi_cpi, if_pos ⟨rfl, by omega, by omega⟩, gi_si_n _ _ _ _ (by omega), gi_si_n _ _ _ _ (by omega), show 19 * n + 1 + (i - 0) = 19 * n + 1 + i by omega]
    have mb : ∀ j k, j < 6 → k < 3 → reg M 0 (26 + 4 * j + k) = if j < ix (reg m 0 (106 + 21 * n)) then reg m 0 (107 + 21 * n + 3 * j + k) else -1 := fun j k hj hk => by
      rw [m4 j k (by omega) hj hk, show 105 + 21 * n + 2 + 3 * j + k = 107 + 21 * n + 3 * j + k by omega, g0 _ (by omega) (by omega)]
    have eM : ∀ k, (k < 25 ∨ 49 ≤ k ∨ ∃ q, k = 25 + 4 * q) → k ≠ 5 → k ≠ 6 → reg M 0 k = reg m 0 k := fun k hk h5 h6 => by rw [m3 k hk, g0 k h5 h6]
    have e5 : reg M 0 5 = reg m 0 (105 + 21 * n) := by rw [m3 5 (by omega), g5]
    have e6 : reg M 0 6 = nI n := by rw [m3 6 (by omega), g6]
    have e6' : ix (reg M 0 6) = n := by rw [e6, ix_nI (by omega)]
    have eG : ∀ k, (k < 5 ∨ (7 ≤ k ∧ k < 25) ∨ (49 ≤ k ∧ k < 105)) → reg M 0 k = reg m 0 k := fun k hk => eM k (by omega) (by omega) (by omega)
    have eJ : ∀ i, i < 6 → reg M 0 (25 + 4 * i) = reg m 0 (25 + 4 * i) := fun i hi => eM _ (Or.inr (Or.inr ⟨i, rfl⟩)) (by omega) (by omega)
    have hI2 : InvG (reg M 0) := InvG_time hI eG eJ (by rw [e5]; exact p1) (by rw [e6]; exact rg_nI (by omega) (by omega)) (fun j hj => by
      have a0 := mb j 0 (by omega) (by omega)
      have a1 := mb j 1 (by omega) (by omega)
      have a2 := mb j 2 (by omega) (by omega)
      rw [Nat.add_zero, Nat.add_zero] at a0
      rw [show 26 + 4 * j + 1 = 27 + 4 * j by omega, show 107 + 21 * n + 3 * j + 1 = 108 + 21 * n + 3 * j by omega] at a1
      rw [show 26 + 4 * j + 2 = 28 + 4 * j by omega, show 107 + 21 * n + 3 * j + 2 = 109 + 21 * n + 3 * j by omega] at a2
      rw [a0, a1, a2]
      by_cases w : j < ix (reg m 0 (106 + 21 * n))
      · rw [if_pos w, if_pos w, if_pos w]; exact p4 j w
      · rw [if_neg w, if_neg w, if_neg w]; exact Or.inl ⟨rfl, rfl, rfl⟩) (fun u hu => by
      rw [e6'] at hu
      obtain ⟨v1, v2, v3, v4⟩ := hI.2.2.2.2.2.2 u (by omega)
      exact ⟨by rw [eM _ (by omega) (by omega) (by omega)]; exact v1, by rw [eM _ (by omega) (by omega) (by omega)]; exact v2, by rw [eM _ (by omega) (by omega) (by omega)]; exact v3, fun i hi => by
        rw [eM (106 + 21 * u) (by omega) (by omega) (by omega)] at hi
        rw [eM _ (by omega) (by omega) (by omega), eM _ (by omega) (by omega) (by omega), eM _ (by omega) (by omega) (by omega)]; exact v4 i hi⟩)
    have hR2 : RL C 16 (reg M 0) := RL_time hI hR.1 (fun a k _ ha2 ha3 => eC a k (by omega) ha3) eG eJ (by rw [e5, hC, gi_cpi, if_neg (by omega), gi_si_s]) (by rw [e6, hC, gi_cpi, if_neg (by omega), gi_si_n _ _ _ _ (by omega), gi_si_s]) (fun j k hj hk => by
      rw [show 16 + 18 = 34 from rfl, cb _ (by omega), mb j k hj hk, eM 1 (by omega) (by omega) (by omega), show 19 * n + 1 + (3 * j + k) = 19 * n + 1 + 3 * j + k by omega]
      have := u2 j k hj hk
      rw [show 16 + 19 = 35 from rfl] at this
      rw [this]
      by_cases w : j < ix (reg m 0 1)
      · rw [if_pos w]
      · rw [if_neg w, if_neg (by omega)]) (fun u hu => by
      rw [e6'] at hu
      exact ⟨by rw [eC _ _ (by omega) (by omega), eM _ (by omega) (by omega) (by omega)]; exact (hpp u (by omega)).1, fun i k hi hk => by rw [eC _ _ (by omega) (by omega), eM (106 + 21 * u) (by omega) (by omega) (by omega), eM (107 + 21 * u + 3 * i + k) (by omega) (by omega) (by omega)]; exact (hpp u (by omega)).2 i k hi hk⟩)
    have hRS : RS C 16 (reg M 0) := RS_keep hI hR hR2 (fun m e _ => eC _ _ (by omega) (by omega)) (eM 0 (by omega) (by omega) (by omega)) (fun k hk => eM k (by omega) (by omega) (by omega))
    refine ⟨1, C, M, ?_, ?_, Rel_shR h ⟨fun a k ha => eC a k (by omega) (by omega), fun a k => by rw [hC]; rfl⟩ (onlyR_tr o0 m2) hI2 hRS⟩
    · unfold ff_SH_goBack
      have e8 : gi (si c 16 8 (nI n)) 16 8 = nI n := gi_si_s _ _ _ _
      have e8' : gi (si (si c 16 8 (nI n)) 16 9 (reg m 0 (105 + 21 * n))) 16 8 = nI n := by rw [gi_si_n _ _ _ _ (by omega), gi_si_s]
      have e19 : (nI n * 19 : Int32) = nI (19 * n) := by rw [show (19 : Int32) = nI 19 from rfl, pk_mul, Nat.mul_comm]
      have e35 : gi (si c 16 8 (nI n)) 35 (19 * n) = reg m 0 (105 + 21 * n) := u1
      rw [s6, hz, if_neg (show ¬ nI (n + 1) ≤ 0 from nI_ge (a := 0) (by omega) (by omega)), nI_pred, st_eq, e8, e19, show rf 16 7 = 35 from rfl, show rf 16 6 = 34 from rfl, show ln 35 = 190 from rfl, show ln 34 = 18 from rfl, if_pos (ixb_nI (by omega) (by omega)), ix_nI (by omega), e35, st_eq, e8', e19, nI_1, if_pos (show spb (nI (19 * n + 1)) 18 190 = true from spb_nI (n := 18) (by omega) (by omega) (by decide)), if_pos (by decide), st_eq, bnd_some, ix_nI (by omega), hC]; rfl
    · have m1' : ff_MO_undo_53 FU M0 100 (nI (105 + 21 * n)) 0 = some (1, M) := m1
      rw [m_g hb (by decide) (by decide), bnd_some, hz, nI_pred, m_s hb (by decide) (by decide), bnd_some, m_g (b_si hb) (by decide) (by decide), bnd_some, reg_si, upd_s, show (105 + 21 * nI n : Int32) = nI (105 + 21 * n) from lin 105 21 n, m_g (b_si hb) (by decide) (by omega), bnd_some, reg_si, upd_n _ _ (by omega), show (5 : Int32) = nI 5 from rfl, m_s (b_si hb) (by decide) (by decide), bnd_some, ← hM0, m1']
