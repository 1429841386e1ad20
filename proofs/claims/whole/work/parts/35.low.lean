/-! a ledger that gets shorter -/
theorem RL_low3 {c c' : St} {s n : Nat} {g g' : Nat → Int32} (hI : InvG g) (h : RL c s g) (hn : n ≤ ix (g 3)) (eC : ∀ a k, ¬ (a = s + 7 ∧ k = 3) → gi c' a k = gi c a k) (eZ : gi c' (s + 7) 3 = nI n) (eG : ∀ k, k ≠ 3 → g' k = g k) (eZ' : g' 3 = nI n) : RL c' s g' := by
  obtain ⟨hl, hs, hc, hb, hp⟩ := h
  obtain ⟨⟨r0, r1, r2, r3, r4, r5, r6⟩, -⟩ := hI
  have r32 := r3.2
  have r42 := r4.2
  have ez : ix (g' 3) = n := by rw [eZ', ix_nI (by omega)]
  refine ⟨?_, ?_, ⟨?_, ?_, ?_, ?_, ?_⟩, ?_, ?_⟩
  · unfold LC at hl ⊢
    rw [eC (s + 1) 0 (by omega), eC (s + 1) 1 (by omega), eC (s + 3) 0 (by omega), eC (s + 3) 1 (by omega), eC (s + 5) 0 (by omega), eC (s + 5) 1 (by omega), eC (s + 7) 0 (by omega), eC (s + 7) 1 (by omega), eC (s + 9) 0 (by omega), eC (s + 9) 1 (by omega)]
    exact hl
  · obtain ⟨s0, s1, s2, s3, s4, s5, s6⟩ := hs
    exact ⟨by rw [eC _ _ (by omega), eG _ (by omega)]; exact s0, by rw [eC _ _ (by omega), eG _ (by omega)]; exact s1, by rw [eC _ _ (by omega), eG _ (by omega)]; exact s2, eZ.trans eZ'.symm, by rw [eC _ _ (by omega), eG _ (by omega)]; exact s4, by rw [eC _ _ (by omega), eG _ (by omega)]; exact s5, by rw [eC _ _ (by omega), eG _ (by omega)]; exact s6⟩
  · exact fun i hi => by rw [eG _ (by omega)] at hi; rw [eC _ _ (by omega), eG _ (by omega)]; exact hc.1 i hi
  · exact fun i hi => by rw [eG _ (by omega)] at hi; rw [eC _ _ (by omega), eG _ (by omega)]; exact hc.2.1 i hi
  · exact fun i hi => by rw [eG _ (by omega)] at hi; rw [eC _ _ (by omega), eG _ (by omega)]; exact hc.2.2.1 i hi
  · exact fun i hi => by rw [ez] at hi; rw [eC _ _ (by omega), eG _ (by omega)]; exact hc.2.2.2.1 i (by omega)
  · exact fun i hi => by rw [eG _ (by omega)] at hi; rw [eC _ _ (by omega), eG _ (by omega)]; exact hc.2.2.2.2 i hi
  · exact fun j k hj hk => by rw [eC _ _ (by omega), eG 1 (by omega), eG (26 + 4 * j + k) (by omega)]; exact hb j k hj hk
  · exact fun u hu => by
      rw [eG 6 (by omega)] at hu
      exact ⟨by rw [eC _ _ (by omega), eG _ (by omega)]; exact (hp u hu).1, fun j k hj hk => by rw [eC _ _ (by omega), eG (106 + 21 * u) (by omega), eG (107 + 21 * u + 3 * j + k) (by omega)]; exact (hp u hu).2 j k hj hk⟩
theorem InvG_low3 {n : Nat} {g g' : Nat → Int32} (hI : InvG g) (hn : n ≤ ix (g 3)) (eG : ∀ k, k ≠ 3 → g' k = g k) (eZ' : g' 3 = nI n) : InvG g' := by
  obtain ⟨⟨r0, r1, r2, r3, r4, r5, r6⟩, i0, i1, i2, i3, i4, i6⟩ := hI
  have r32 := r3.2
  have r42 := r4.2
  have ez : ix (g' 3) = n := by rw [eZ', ix_nI (by omega)]
  have rz : rg 10 (g' 3) := by rw [eZ']; exact rg_nI (by omega) (by omega)
  refine ⟨⟨by rw [eG _ (by omega)]; exact r0, by rw [eG _ (by omega)]; exact r1, by rw [eG _ (by omega)]; exact r2, rz, by rw [eG _ (by omega)]; exact r4, by rw [eG _ (by omega)]; exact r5, by rw [eG _ (by omega)]; exact r6⟩, ?_, ?_, ?_, ?_, ?_, ?_⟩
  · exact fun i hi => by rw [eG 0 (by omega)] at hi; rw [eG (7 + 3 * i) (by omega), eG (8 + 3 * i) (by omega), eG (9 + 3 * i) (by omega)]; exact i0 i hi
  · exact fun i hi => by rw [eG 1 (by omega)] at hi; rw [eG (25 + 4 * i) (by omega), eG (26 + 4 * i) (by omega), eG (27 + 4 * i) (by omega), eG (28 + 4 * i) (by omega), eG (0) (by omega)]; exact i1 i hi
  · exact fun i hi => by rw [eG 2 (by omega)] at hi; rw [eG (49 + 2 * i) (by omega), eG (50 + 2 * i) (by omega), eG (1) (by omega)]; exact i2 i hi
  · exact fun i hi => by rw [ez] at hi; rw [eG (57 + 3 * i) (by omega), eG (58 + 3 * i) (by omega), eG (59 + 3 * i) (by omega), eG (0) (by omega)]; exact i3 i (by omega)
  · exact fun i hi => by rw [eG 4 (by omega)] at hi; rw [eG (87 + 3 * i) (by omega), eG (88 + 3 * i) (by omega), eG (89 + 3 * i) (by omega)]; exact i4 i hi
  · exact fun u hu => by
      rw [eG 6 (by omega)] at hu
      obtain ⟨p1, p2, p3, p4⟩ := i6 u hu
      exact ⟨by rw [eG _ (by omega)]; exact p1, by rw [eG _ (by omega)]; exact p2, by rw [eG (106 + 21 * u) (by omega), eG 1 (by omega)]; exact p3, fun j hj => by
        rw [eG (106 + 21 * u) (by omega)] at hj
        rw [eG (107 + 21 * u + 3 * j) (by omega), eG (108 + 21 * u + 3 * j) (by omega), eG (109 + 21 * u + 3 * j) (by omega), eG 0 (by omega)]
        exact p4 j hj⟩
theorem RL_low4 {c c' : St} {s n : Nat} {g g' : Nat → Int32} (hI : InvG g) (h : RL c s g) (hn : n ≤ ix (g 4)) (eC : ∀ a k, ¬ (a = s + 9 ∧ k = 3) → gi c' a k = gi c a k) (eZ : gi c' (s + 9) 3 = nI n) (eG : ∀ k, k ≠ 4 → g' k = g k) (eZ' : g' 4 = nI n) : RL c' s g' := by
  obtain ⟨hl, hs, hc, hb, hp⟩ := h
  obtain ⟨⟨r0, r1, r2, r3, r4, r5, r6⟩, -⟩ := hI
  have r32 := r3.2
  have r42 := r4.2
  have ez : ix (g' 4) = n := by rw [eZ', ix_nI (by omega)]
  refine ⟨?_, ?_, ⟨?_, ?_, ?_, ?_, ?_⟩, ?_, ?_⟩
  · unfold LC at hl ⊢
    rw [eC (s + 1) 0 (by omega), eC (s + 1) 1 (by omega), eC (s + 3) 0 (by omega), eC (s + 3) 1 (by omega), eC (s + 5) 0 (by omega), eC (s + 5) 1 (by omega), eC (s + 7) 0 (by omega), eC (s + 7) 1 (by omega), eC (s + 9) 0 (by omega), eC (s + 9) 1 (by omega)]
    exact hl
  · obtain ⟨s0, s1, s2, s3, s4, s5, s6⟩ := hs
    exact ⟨by rw [eC _ _ (by omega), eG _ (by omega)]; exact s0, by rw [eC _ _ (by omega), eG _ (by omega)]; exact s1, by rw [eC _ _ (by omega), eG _ (by omega)]; exact s2, by rw [eC _ _ (by omega), eG _ (by omega)]; exact s3, eZ.trans eZ'.symm, by rw [eC _ _ (by omega), eG _ (by omega)]; exact s5, by rw [eC _ _ (by omega), eG _ (by omega)]; exact s6⟩
  · exact fun i hi => by rw [eG _ (by omega)] at hi; rw [eC _ _ (by omega), eG _ (by omega)]; exact hc.1 i hi
  · exact fun i hi => by rw [eG _ (by omega)] at hi; rw [eC _ _ (by omega), eG _ (by omega)]; exact hc.2.1 i hi
  · exact fun i hi => by rw [eG _ (by omega)] at hi; rw [eC _ _ (by omega), eG _ (by omega)]; exact hc.2.2.1 i hi
  · exact fun i hi => by rw [eG _ (by omega)] at hi; rw [eC _ _ (by omega), eG _ (by omega)]; exact hc.2.2.2.1 i hi
  · exact fun i hi => by rw [ez] at hi; rw [eC _ _ (by omega), eG _ (by omega)]; exact hc.2.2.2.2 i (by omega)
  · exact fun j k hj hk => by rw [eC _ _ (by omega), eG 1 (by omega), eG (26 + 4 * j + k) (by omega)]; exact hb j k hj hk
  · exact fun u hu => by
      rw [eG 6 (by omega)] at hu
      exact ⟨by rw [eC _ _ (by omega), eG _ (by omega)]; exact (hp u hu).1, fun j k hj hk => by rw [eC _ _ (by omega), eG (106 + 21 * u) (by omega), eG (107 + 21 * u + 3 * j + k) (by omega)]; exact (hp u hu).2 j k hj hk⟩
theorem InvG_low4 {n : Nat} {g g' : Nat → Int32} (hI : InvG g) (hn : n ≤ ix (g 4)) (eG : ∀ k, k ≠ 4 → g' k = g k) (eZ' : g' 4 = nI n) : InvG g' := by
  obtain ⟨⟨r0, r1, r2, r3, r4, r5, r6⟩, i0, i1, i2, i3, i4, i6⟩ := hI
  have r32 := r3.2
  have r42 := r4.2
  have ez : ix (g' 4) = n := by rw [eZ', ix_nI (by omega)]
  have rz : rg 6 (g' 4) := by rw [eZ']; exact rg_nI (by omega) (by omega)
  refine ⟨⟨by rw [eG _ (by omega)]; exact r0, by rw [eG _ (by omega)]; exact r1, by rw [eG _ (by omega)]; exact r2, by rw [eG _ (by omega)]; exact r3, rz, by rw [eG _ (by omega)]; exact r5, by rw [eG _ (by omega)]; exact r6⟩, ?_, ?_, ?_, ?_, ?_, ?_⟩
  · exact fun i hi => by rw [eG 0 (by omega)] at hi; rw [eG (7 + 3 * i) (by omega), eG (8 + 3 * i) (by omega), eG (9 + 3 * i) (by omega)]; exact i0 i hi
  · exact fun i hi => by rw [eG 1 (by omega)] at hi; rw [eG (25 + 4 * i) (by omega), eG (26 + 4 * i) (by omega), eG (27 + 4 * i) (by omega), eG (28 + 4 * i) (by omega), eG (0) (by omega)]; exact i1 i hi
  · exact fun i hi => by rw [eG 2 (by omega)] at hi; rw [eG (49 + 2 * i) (by omega), eG (50 + 2 * i) (by omega), eG (1) (by omega)]; exact i2 i hi
  · exact fun i hi => by rw [eG 3 (by omega)] at hi; rw [eG (57 + 3 * i) (by omega), eG (58 + 3 * i) (by omega), eG (59 + 3 * i) (by omega), eG (0) (by omega)]; exact i3 i hi
  · exact fun i hi => by rw [ez] at hi; rw [eG (87 + 3 * i) (by omega), eG (88 + 3 * i) (by omega), eG (89 + 3 * i) (by omega)]; exact i4 i (by omega)
  · exact fun u hu => by
      rw [eG 6 (by omega)] at hu
      obtain ⟨p1, p2, p3, p4⟩ := i6 u hu
      exact ⟨by rw [eG _ (by omega)]; exact p1, by rw [eG _ (by omega)]; exact p2, by rw [eG (106 + 21 * u) (by omega), eG 1 (by omega)]; exact p3, fun j hj => by
        rw [eG (106 + 21 * u) (by omega)] at hj
        rw [eG (107 + 21 * u + 3 * j) (by omega), eG (108 + 21 * u + 3 * j) (by omega), eG (109 + 21 * u + 3 * j) (by omega), eG 0 (by omega)]
        exact p4 j hj⟩
/-! only places below 315 matter -/
theorem InvG_cg {g g' : Nat → Int32} (hI : InvG g) (e : ∀ k, k < 315 → g' k = g k) : InvG g' := by
  obtain ⟨⟨r0, r1, r2, r3, r4, r5, r6⟩, i0, i1, i2, i3, i4, i6⟩ := hI
  have r02 := r0.2
  have r12 := r1.2
  have r22 := r2.2
  have r32 := r3.2
  have r42 := r4.2
  have r62 := r6.2
  refine ⟨⟨by rw [e _ (by omega)]; exact r0, by rw [e _ (by omega)]; exact r1, by rw [e _ (by omega)]; exact r2, by rw [e _ (by omega)]; exact r3, by rw [e _ (by omega)]; exact r4, by rw [e _ (by omega)]; exact r5, by rw [e _ (by omega)]; exact r6⟩, ?_, ?_, ?_, ?_, ?_, ?_⟩
  · exact fun i hi => by rw [e 0 (by omega)] at hi; rw [e (7 + 3 * i) (by omega), e (8 + 3 * i) (by omega), e (9 + 3 * i) (by omega)]; exact i0 i hi
  · exact fun i hi => by rw [e 1 (by omega)] at hi; rw [e (25 + 4 * i) (by omega), e (26 + 4 * i) (by omega), e (27 + 4 * i) (by omega), e (28 + 4 * i) (by omega), e (0) (by omega)]; exact i1 i hi
  · exact fun i hi => by rw [e 2 (by omega)] at hi; rw [e (49 + 2 * i) (by omega), e (50 + 2 * i) (by omega), e (1) (by omega)]; exact i2 i hi
  · exact fun i hi => by rw [e 3 (by omega)] at hi; rw [e (57 + 3 * i) (by omega), e (58 + 3 * i) (by omega), e (59 + 3 * i) (by omega), e (0) (by omega)]; exact i3 i hi
  · exact fun i hi => by rw [e 4 (by omega)] at hi; rw [e (87 + 3 * i) (by omega), e (88 + 3 * i) (by omega), e (89 + 3 * i) (by omega)]; exact i4 i hi
  · exact fun u hu => by
      rw [e 6 (by omega)] at hu
      obtain ⟨p1, p2, p3, p4⟩ := i6 u hu
      have p22 := p2.2
      exact ⟨by rw [e _ (by omega)]; exact p1, by rw [e _ (by omega)]; exact p2, by rw [e (106 + 21 * u) (by omega), e 1 (by omega)]; exact p3, fun j hj => by
        rw [e (106 + 21 * u) (by omega)] at hj
        rw [e (107 + 21 * u + 3 * j) (by omega), e (108 + 21 * u + 3 * j) (by omega), e (109 + 21 * u + 3 * j) (by omega), e 0 (by omega)]
        exact p4 j hj⟩
theorem RL_cg {c : St} {s : Nat} {g g' : Nat → Int32} (hI : InvG g) (h : RL c s g) (e : ∀ k, k < 315 → g' k = g k) : RL c s g' := by
  obtain ⟨hl, ⟨s0, s1, s2, s3, s4, s5, s6⟩, hc, hb, hp⟩ := h
  obtain ⟨⟨r0, r1, r2, r3, r4, r5, r6⟩, -⟩ := hI
  have r02 := r0.2
  have r12 := r1.2
  have r22 := r2.2
  have r32 := r3.2
  have r42 := r4.2
  have r62 := r6.2
  refine ⟨hl, ⟨by rw [e _ (by omega)]; exact s0, by rw [e _ (by omega)]; exact s1, by rw [e _ (by omega)]; exact s2, by rw [e _ (by omega)]; exact s3, by rw [e _ (by omega)]; exact s4, by rw [e _ (by omega)]; exact s5, by rw [e _ (by omega)]; exact s6⟩, ⟨?_, ?_, ?_, ?_, ?_⟩, ?_, ?_⟩
  · exact fun i hi => by rw [e 0 (by omega)] at hi; rw [e _ (by omega)]; exact hc.1 i hi
  · exact fun i hi => by rw [e 1 (by omega)] at hi; rw [e _ (by omega)]; exact hc.2.1 i hi
  · exact fun i hi => by rw [e 2 (by omega)] at hi; rw [e _ (by omega)]; exact hc.2.2.1 i hi
  · exact fun i hi => by rw [e 3 (by omega)] at hi; rw [e _ (by omega)]; exact hc.2.2.2.1 i hi
  · exact fun i hi => by rw [e 4 (by omega)] at hi; rw [e _ (by omega)]; exact hc.2.2.2.2 i hi
  · exact fun j k hj hk => by rw [e 1 (by omega), e (26 + 4 * j + k) (by omega)]; exact hb j k hj hk
  · exact fun u hu => by
      rw [e 6 (by omega)] at hu
      exact ⟨by rw [e _ (by omega)]; exact (hp u hu).1, fun j k hj hk => by rw [e (106 + 21 * u) (by omega), e (107 + 21 * u + 3 * j + k) (by omega)]; exact (hp u hu).2 j k hj hk⟩
theorem RS_cg {c : St} {s : Nat} {g g' : Nat → Int32} (hI : InvG g) (h : RS c s g) (e : ∀ k, k < 315 → g' k = g k) : RS c s g' :=
  RS_keep hI h (RL_cg hI h.1 e) (fun _ _ _ => rfl) (e 0 (by omega)) (fun k hk => e k (by omega))
/-! what the days change -/
theorem RL_time {c c' : St} {s : Nat} {g g' : Nat → Int32} (hI : InvG g) (h : RL c s g) (eC : ∀ a k, s ≤ a → a < s + 11 → ¬ (a = s ∧ (k = 8 ∨ k = 9)) → gi c' a k = gi c a k) (eG : ∀ k, (k < 5 ∨ (7 ≤ k ∧ k < 25) ∨ (49 ≤ k ∧ k < 105)) → g' k = g k) (eJ : ∀ j, j < 6 → g' (25 + 4 * j) = g (25 + 4 * j)) (z5 : gi c' s 9 = g' 5) (z6 : gi c' s 8 = g' 6) (hb' : RLb c' s g') (hp' : RLp c' s g') : RL c' s g' := by
  obtain ⟨hl, ⟨s0, s1, s2, s3, s4, s5, s6⟩, hc, hb, hp⟩ := h
  obtain ⟨⟨r0, r1, r2, r3, r4, r5, r6⟩, -⟩ := hI
  have r02 := r0.2
  have r12 := r1.2
  have r22 := r2.2
  have r32 := r3.2
  have r42 := r4.2
  refine ⟨?_, ⟨by rw [eC _ _ (by omega) (by omega) (by omega), eG _ (by omega)]; exact s0, by rw [eC _ _ (by omega) (by omega) (by omega), eG _ (by omega)]; exact s1, by rw [eC _ _ (by omega) (by omega) (by omega), eG _ (by omega)]; exact s2, by rw [eC _ _ (by omega) (by omega) (by omega), eG _ (by omega)]; exact s3, by rw [eC _ _ (by omega) (by omega) (by omega), eG _ (by omega)]; exact s4, z5, z6⟩, ⟨?_, ?_, ?_, ?_, ?_⟩, hb', hp'⟩
  · unfold LC at hl ⊢
    rw [eC (s + 1) 0 (by omega) (by omega) (by omega), eC (s + 1) 1 (by omega) (by omega) (by omega), eC (s + 3) 0 (by omega) (by omega) (by omega), eC (s + 3) 1 (by omega) (by omega) (by omega), eC (s + 5) 0 (by omega) (by omega) (by omega), eC (s + 5) 1 (by omega) (by omega) (by omega), eC (s + 7) 0 (by omega) (by omega) (by omega), eC (s + 7) 1 (by omega) (by omega) (by omega), eC (s + 9) 0 (by omega) (by omega) (by omega), eC (s + 9) 1 (by omega) (by omega) (by omega)]
    exact hl
  · exact fun i hi => by rw [eG 0 (by omega)] at hi; rw [eC _ _ (by omega) (by omega) (by omega), eG _ (by omega)]; exact hc.1 i hi
  · exact fun i hi => by rw [eG 1 (by omega)] at hi; rw [eC _ _ (by omega) (by omega) (by omega), eJ _ (by omega)]; exact hc.2.1 i hi
  · exact fun i hi => by rw [eG 2 (by omega)] at hi; rw [eC _ _ (by omega) (by omega) (by omega), eG _ (by omega)]; exact hc.2.2.1 i hi
  · exact fun i hi => by rw [eG 3 (by omega)] at hi; rw [eC _ _ (by omega) (by omega) (by omega), eG _ (by omega)]; exact hc.2.2.2.1 i hi
  · exact fun i hi => by rw [eG 4 (by omega)] at hi; rw [eC _ _ (by omega) (by omega) (by omega), eG _ (by omega)]; exact hc.2.2.2.2 i hi
theorem InvG_time {g g' : Nat → Int32} (hI : InvG g) (eG : ∀ k, (k < 5 ∨ (7 ≤ k ∧ k < 25) ∨ (49 ≤ k ∧ k < 105)) → g' k = g k) (eJ : ∀ j, j < 6 → g' (25 + 4 * j) = g (25 + 4 * j)) (r5' : rg 99 (g' 5)) (r6' : rg 10 (g' 6)) (hj : ∀ j, j < ix (g 1) → okB (ix (g 0)) (g' (26 + 4 * j)) (g' (27 + 4 * j)) (g' (28 + 4 * j))) (hu : ∀ u, u < ix (g' 6) → rg 99 (g' (105 + 21 * u)) ∧ rg 6 (g' (106 + 21 * u)) ∧ ix (g' (106 + 21 * u)) ≤ ix (g 1) ∧ ∀ j, j < ix (g' (106 + 21 * u)) → okB (ix (g 0)) (g' (107 + 21 * u + 3 * j)) (g' (108 + 21 * u + 3 * j)) (g' (109 + 21 * u + 3 * j))) : InvG g' := by
  obtain ⟨⟨r0, r1, r2, r3, r4, r5, r6⟩, i0, i1, i2, i3, i4, i6⟩ := hI
  have r02 := r0.2
  have r12 := r1.2
  have r22 := r2.2
  have r32 := r3.2
  have r42 := r4.2
  refine ⟨⟨by rw [eG _ (by omega)]; exact r0, by rw [eG _ (by omega)]; exact r1, by rw [eG _ (by omega)]; exact r2, by rw [eG _ (by omega)]; exact r3, by rw [eG _ (by omega)]; exact r4, r5', r6'⟩, ?_, ?_, ?_, ?_, ?_, ?_⟩
  · exact fun i hi => by rw [eG 0 (by omega)] at hi; rw [eG (7 + 3 * i) (by omega), eG (8 + 3 * i) (by omega), eG (9 + 3 * i) (by omega)]; exact i0 i hi
  · exact fun i hi => by rw [eG 1 (by omega)] at hi; rw [eJ i (by omega), eG 0 (by omega)]; exact ⟨(i1 i hi).1, hj i hi⟩
  · exact fun i hi => by rw [eG 2 (by omega)] at hi; rw [eG (49 + 2 * i) (by omega), eG (50 + 2 * i) (by omega), eG (1) (by omega)]; exact i2 i hi
  · exact fun i hi => by rw [eG 3 (by omega)] at hi; rw [eG (57 + 3 * i) (by omega), eG (58 + 3 * i) (by omega), eG (59 + 3 * i) (by omega), eG (0) (by omega)]; exact i3 i hi
  · exact fun i hi => by rw [eG 4 (by omega)] at hi; rw [eG (87 + 3 * i) (by omega), eG (88 + 3 * i) (by omega), eG (89 + 3 * i) (by omega)]; exact i4 i hi
  · rw [eG 0 (by omega), eG 1 (by omega)]; exact hu
