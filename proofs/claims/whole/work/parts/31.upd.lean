/-! one row more in a ledger -/
theorem GR_cg {g g' : Nat → Int32} {w : Int32} {m : Nat} (h3 : g' 3 = g 3) (hk : g' (7 + 3 * m) = g (7 + 3 * m)) (h0 : g' (8 + 3 * m) = g (8 + 3 * m)) (hf : ∀ f, f < ix (g 3) → g' (57 + 3 * f) = g (57 + 3 * f) ∧ g' (58 + 3 * f) = g (58 + 3 * f) ∧ g' (59 + 3 * f) = g (59 + 3 * f)) : ∀ d, GR g' w m d = GR g w m d
  | 0 => by show ix (g' (8 + 3 * m)) = ix (g (8 + 3 * m)); rw [h0]
  | d + 1 => by
    have fe : ∀ (n f v : Nat), f + n ≤ ix (g 3) → feU g' w m (d + 1) f n v = feU g w m (d + 1) f n v := by
      intro n
      induction n with
      | zero => intro f v _; rfl
      | succ n ih =>
        intro f v hfn
        obtain ⟨a1, a2, a3⟩ := hf f (by omega)
        show feU g' w m (d + 1) (f + 1) n (fe1 g' w m (d + 1) f v) = feU g w m (d + 1) (f + 1) n (fe1 g w m (d + 1) f v)
        have e : fe1 g' w m (d + 1) f v = fe1 g w m (d + 1) f v := by unfold fe1 hit; rw [a1, a2, a3]
        rw [e, ih (f + 1) _ (by omega)]
    show dayN g' w m (GR g' w m d) (d + 1) = dayN g w m (GR g w m d) (d + 1)
    rw [GR_cg h3 hk h0 hf d]
    unfold dayN
    rw [hk, h3, fe _ _ _ (by omega)]
/-- one feast more, of another -/
theorem GR_ext {g g' : Nat → Int32} {w : Int32} {m n : Nat} (hn : n = ix (g 3)) (h3 : ix (g' 3) = n + 1) (hk : g' (7 + 3 * m) = g (7 + 3 * m)) (h0 : g' (8 + 3 * m) = g (8 + 3 * m)) (hf : ∀ f, f < n → g' (57 + 3 * f) = g (57 + 3 * f) ∧ g' (58 + 3 * f) = g (58 + 3 * f) ∧ g' (59 + 3 * f) = g (59 + 3 * f)) (ho : ¬ g' (59 + 3 * n) = nI m) : ∀ d, GR g' w m d = GR g w m d
  | 0 => by show ix (g' (8 + 3 * m)) = ix (g (8 + 3 * m)); rw [h0]
  | d + 1 => by
    have fe : ∀ (k f v : Nat), f + k ≤ n → feU g' w m (d + 1) f k v = feU g w m (d + 1) f k v := by
      intro k
      induction k with
      | zero => intro f v _; rfl
      | succ k ih =>
        intro f v hfn
        obtain ⟨a1, a2, a3⟩ := hf f (by omega)
        show feU g' w m (d + 1) (f + 1) k (fe1 g' w m (d + 1) f v) = feU g w m (d + 1) (f + 1) k (fe1 g w m (d + 1) f v)
        have e : fe1 g' w m (d + 1) f v = fe1 g w m (d + 1) f v := by unfold fe1 hit; rw [a1, a2, a3]
        rw [e, ih (f + 1) _ (by omega)]
    show dayN g' w m (GR g' w m d) (d + 1) = dayN g w m (GR g w m d) (d + 1)
    rw [GR_ext hn h3 hk h0 hf ho d]
    unfold dayN
    rw [hk, h3, feU_sn, ← hn, fe _ _ _ (by omega)]
    have hh : hit g' w m (d + 1) (0 + n) = false := by
      unfold hit
      rw [decide_eq_false_iff_not, Nat.zero_add]
      exact fun z => ho z.2.2
    unfold fe1
    rw [hh, if_neg (by decide)]
theorem okB_mono {M N : Nat} {d a b : Int32} (h : okB M d a b) (hm : M ≤ N) : okB N d a b := by
  rcases h with z | ⟨z1, z2, z3, z4⟩
  · exact Or.inl z
  · exact Or.inr ⟨z1, z2, by omega, z4.imp id (fun y => ⟨y.1, by omega, y.2.2⟩)⟩
theorem rg_mono {a b : Nat} {v : Int32} (h : rg a v) (hb : a ≤ b) : rg b v := ⟨h.1, by have := h.2; omega⟩
theorem RL_mo {c c' : St} {s n : Nat} {g g' : Nat → Int32} (hI : InvG g) (h : RL c s g) (hn : n = ix (g 0)) (hn2 : n < 6) (eC : ∀ a k, ¬ (a = s + 2 ∧ 3 * n ≤ k ∧ k < 3 * n + 3) → ¬ (a = s + 1 ∧ k = 3) → gi c' a k = gi c a k) (eZ : gi c' (s + 1) 3 = nI (n + 1)) (eG : ∀ k, ¬ (7 + 3 * n ≤ k ∧ k < 7 + 3 * n + 3) → k ≠ 0 → g' k = g k) (eZ' : g' 0 = nI (n + 1)) (eV : ∀ i, i < 3 → gi c' (s + 2) (3 * n + i) = g' (7 + 3 * n + i)) : RL c' s g' := by
  obtain ⟨hl, hs, hc, hb, hp⟩ := h
  obtain ⟨⟨r0, r1, r2, r3, r4, r5, r6⟩, -⟩ := hI
  have r02 := r0.2
  have r12 := r1.2
  have r22 := r2.2
  have r32 := r3.2
  have r42 := r4.2
  have r62 := r6.2
  have ez : ix (g' 0) = n + 1 := by rw [eZ', ix_nI (by omega)]
  have e1 : g' 1 = g 1 := eG _ (by omega) (by omega)
  have e2 : g' 2 = g 2 := eG _ (by omega) (by omega)
  have e3 : g' 3 = g 3 := eG _ (by omega) (by omega)
  have e4 : g' 4 = g 4 := eG _ (by omega) (by omega)
  have e5 : g' 5 = g 5 := eG _ (by omega) (by omega)
  have e6 : g' 6 = g 6 := eG _ (by omega) (by omega)
  refine ⟨?_, ?_, ⟨?_, ?_, ?_, ?_, ?_⟩, ?_, ?_⟩
  · unfold LC at hl ⊢
    rw [eC (s + 1) 0 (by omega) (by omega), eC (s + 1) 1 (by omega) (by omega), eC (s + 3) 0 (by omega) (by omega), eC (s + 3) 1 (by omega) (by omega), eC (s + 5) 0 (by omega) (by omega), eC (s + 5) 1 (by omega) (by omega), eC (s + 7) 0 (by omega) (by omega), eC (s + 7) 1 (by omega) (by omega), eC (s + 9) 0 (by omega) (by omega), eC (s + 9) 1 (by omega) (by omega)]
    exact hl
  · obtain ⟨s0, s1, s2, s3, s4, s5, s6⟩ := hs
    exact ⟨eZ.trans eZ'.symm, by rw [eC _ _ (by omega) (by omega), e1]; exact s1, by rw [eC _ _ (by omega) (by omega), e2]; exact s2, by rw [eC _ _ (by omega) (by omega), e3]; exact s3, by rw [eC _ _ (by omega) (by omega), e4]; exact s4, by rw [eC _ _ (by omega) (by omega), e5]; exact s5, by rw [eC _ _ (by omega) (by omega), e6]; exact s6⟩
  · intro i hi
    rw [ez] at hi
    by_cases z : 3 * n ≤ i
    · have := eV (i - 3 * n) (by omega)
      rw [show 3 * n + (i - 3 * n) = i by omega, show 7 + 3 * n + (i - 3 * n) = 7 + i by omega] at this
      exact this
    · rw [eC _ _ (by omega) (by omega), eG _ (by omega) (by omega)]; exact hc.1 i (by omega)
  · intro i hi
    rw [e1] at hi
    rw [eC _ _ (by omega) (by omega), eG _ (by omega) (by omega)]; exact hc.2.1 i hi
  · intro i hi
    rw [e2] at hi
    rw [eC _ _ (by omega) (by omega), eG _ (by omega) (by omega)]; exact hc.2.2.1 i hi
  · intro i hi
    rw [e3] at hi
    rw [eC _ _ (by omega) (by omega), eG _ (by omega) (by omega)]; exact hc.2.2.2.1 i hi
  · intro i hi
    rw [e4] at hi
    rw [eC _ _ (by omega) (by omega), eG _ (by omega) (by omega)]; exact hc.2.2.2.2 i hi
  · intro j k hj hk
    rw [eC _ _ (by omega) (by omega), e1, hb j k hj hk]
    by_cases y : j < ix (g 1)
    · rw [if_pos y, if_pos y, eG _ (by omega) (by omega)]
    · rw [if_neg y, if_neg y]
  · intro u hu
    rw [e6] at hu
    obtain ⟨p1, p2⟩ := hp u hu
    refine ⟨by rw [eC _ _ (by omega) (by omega), eG _ (by omega) (by omega)]; exact p1, fun j k hj hk => ?_⟩
    rw [eC _ _ (by omega) (by omega), eG (106 + 21 * u) (by omega) (by omega), p2 j k hj hk]
    by_cases y : j < ix (g (106 + 21 * u))
    · rw [if_pos y, if_pos y, eG _ (by omega) (by omega)]
    · rw [if_neg y, if_neg y]
theorem InvG_mo {n : Nat} {g g' : Nat → Int32} (hI : InvG g) (hn : n = ix (g 0)) (hn2 : n < 6) (eG : ∀ k, ¬ (7 + 3 * n ≤ k ∧ k < 7 + 3 * n + 3) → k ≠ 0 → g' k = g k) (eZ' : g' 0 = nI (n + 1)) (v0 : rg 5 (g' (7 + 3 * n))) (v1 : rg 99 (g' (8 + 3 * n))) (v2 : rg 99 (g' (9 + 3 * n))) : InvG g' := by
  obtain ⟨⟨r0, r1, r2, r3, r4, r5, r6⟩, i0, i1, i2, i3, i4, i6⟩ := hI
  have r02 := r0.2
  have r12 := r1.2
  have r22 := r2.2
  have r32 := r3.2
  have r42 := r4.2
  have r62 := r6.2
  have ez : ix (g' 0) = n + 1 := by rw [eZ', ix_nI (by omega)]
  have rz : rg 6 (g' 0) := by rw [eZ']; exact rg_nI (by omega) (by omega)
  have e1 : g' 1 = g 1 := eG _ (by omega) (by omega)
  have e2 : g' 2 = g 2 := eG _ (by omega) (by omega)
  have e3 : g' 3 = g 3 := eG _ (by omega) (by omega)
  have e4 : g' 4 = g 4 := eG _ (by omega) (by omega)
  have e5 : g' 5 = g 5 := eG _ (by omega) (by omega)
  have e6 : g' 6 = g 6 := eG _ (by omega) (by omega)
  refine ⟨⟨rz, by rw [e1]; exact r1, by rw [e2]; exact r2, by rw [e3]; exact r3, by rw [e4]; exact r4, by rw [e5]; exact r5, by rw [e6]; exact r6⟩, ?_, ?_, ?_, ?_, ?_, ?_⟩
  · intro i hi
    rw [ez] at hi
    by_cases z : i = n
    · subst z; exact ⟨v0, v1, v2⟩
    · have := i0 i (by omega)
      rw [eG (7 + 3 * i) (by omega) (by omega), eG (8 + 3 * i) (by omega) (by omega), eG (9 + 3 * i) (by omega) (by omega)]; exact this
  · intro i hi
    rw [e1] at hi
    have := i1 i hi
    rw [eG (25 + 4 * i) (by omega) (by omega), eG (26 + 4 * i) (by omega) (by omega), eG (27 + 4 * i) (by omega) (by omega), eG (28 + 4 * i) (by omega) (by omega), ez]; exact ⟨this.1, okB_mono this.2 (by omega)⟩
  · intro i hi
    rw [e2] at hi
    have := i2 i hi
    rw [eG (49 + 2 * i) (by omega) (by omega), eG (50 + 2 * i) (by omega) (by omega), e1]; exact this
  · intro i hi
    rw [e3] at hi
    have := i3 i hi
    rw [eG (57 + 3 * i) (by omega) (by omega), eG (58 + 3 * i) (by omega) (by omega), eG (59 + 3 * i) (by omega) (by omega), ez]; exact ⟨this.1, this.2.1, this.2.2.1, this.2.2.2.1, by omega⟩
  · intro i hi
    rw [e4] at hi
    have := i4 i hi
    rw [eG (87 + 3 * i) (by omega) (by omega), eG (88 + 3 * i) (by omega) (by omega), eG (89 + 3 * i) (by omega) (by omega)]; exact this
  · intro u hu
    rw [e6] at hu
    obtain ⟨p1, p2, p3, p4⟩ := i6 u hu
    have e106 : g' (106 + 21 * u) = g (106 + 21 * u) := eG _ (by omega) (by omega)
    have p22 := p2.2
    refine ⟨by rw [eG _ (by omega) (by omega)]; exact p1, by rw [e106]; exact p2, ?_, fun j hj => ?_⟩
    · rw [e106, e1]; omega
    · rw [e106] at hj
      rw [eG (107 + 21 * u + 3 * j) (by omega) (by omega), eG (108 + 21 * u + 3 * j) (by omega) (by omega), eG (109 + 21 * u + 3 * j) (by omega) (by omega), ez]
      exact okB_mono (p4 j hj) (by omega)
theorem RL_jo {c c' : St} {s n : Nat} {g g' : Nat → Int32} (hI : InvG g) (h : RL c s g) (hn : n = ix (g 1)) (hn2 : n < 6) (eC : ∀ a k, ¬ (a = s + 4 ∧ 1 * n ≤ k ∧ k < 1 * n + 1) → ¬ (a = s + 3 ∧ k = 3) → gi c' a k = gi c a k) (eZ : gi c' (s + 3) 3 = nI (n + 1)) (eG : ∀ k, ¬ (25 + 4 * n ≤ k ∧ k < 25 + 4 * n + 4) → k ≠ 1 → g' k = g k) (eZ' : g' 1 = nI (n + 1)) (eV : ∀ i, i < 1 → gi c' (s + 4) (1 * n + i) = g' (25 + 4 * n + i)) (eB : ∀ k, k < 3 → g' (26 + 4 * n + k) = -1) : RL c' s g' := by
  obtain ⟨hl, hs, hc, hb, hp⟩ := h
  obtain ⟨⟨r0, r1, r2, r3, r4, r5, r6⟩, -⟩ := hI
  have r02 := r0.2
  have r12 := r1.2
  have r22 := r2.2
  have r32 := r3.2
  have r42 := r4.2
  have r62 := r6.2
  have ez : ix (g' 1) = n + 1 := by rw [eZ', ix_nI (by omega)]
  have e0 : g' 0 = g 0 := eG _ (by omega) (by omega)
  have e2 : g' 2 = g 2 := eG _ (by omega) (by omega)
  have e3 : g' 3 = g 3 := eG _ (by omega) (by omega)
  have e4 : g' 4 = g 4 := eG _ (by omega) (by omega)
  have e5 : g' 5 = g 5 := eG _ (by omega) (by omega)
  have e6 : g' 6 = g 6 := eG _ (by omega) (by omega)
  refine ⟨?_, ?_, ⟨?_, ?_, ?_, ?_, ?_⟩, ?_, ?_⟩
  · unfold LC at hl ⊢
    rw [eC (s + 1) 0 (by omega) (by omega), eC (s + 1) 1 (by omega) (by omega), eC (s + 3) 0 (by omega) (by omega), eC (s + 3) 1 (by omega) (by omega), eC (s + 5) 0 (by omega) (by omega), eC (s + 5) 1 (by omega) (by omega), eC (s + 7) 0 (by omega) (by omega), eC (s + 7) 1 (by omega) (by omega), eC (s + 9) 0 (by omega) (by omega), eC (s + 9) 1 (by omega) (by omega)]
    exact hl
  · obtain ⟨s0, s1, s2, s3, s4, s5, s6⟩ := hs
    exact ⟨by rw [eC _ _ (by omega) (by omega), e0]; exact s0, eZ.trans eZ'.symm, by rw [eC _ _ (by omega) (by omega), e2]; exact s2, by rw [eC _ _ (by omega) (by omega), e3]; exact s3, by rw [eC _ _ (by omega) (by omega), e4]; exact s4, by rw [eC _ _ (by omega) (by omega), e5]; exact s5, by rw [eC _ _ (by omega) (by omega), e6]; exact s6⟩
  · intro i hi
    rw [e0] at hi
    rw [eC _ _ (by omega) (by omega), eG _ (by omega) (by omega)]; exact hc.1 i hi
  · intro i hi
    rw [ez] at hi
    by_cases z : i = n
    · subst z
      have := eV 0 (by omega)
      rw [Nat.add_zero, Nat.one_mul, Nat.add_zero] at this
      exact this
    · rw [eC _ _ (by omega) (by omega), eG _ (by omega) (by omega)]; exact hc.2.1 i (by omega)
  · intro i hi
    rw [e2] at hi
    rw [eC _ _ (by omega) (by omega), eG _ (by omega) (by omega)]; exact hc.2.2.1 i hi
  · intro i hi
    rw [e3] at hi
    rw [eC _ _ (by omega) (by omega), eG _ (by omega) (by omega)]; exact hc.2.2.2.1 i hi
  · intro i hi
    rw [e4] at hi
    rw [eC _ _ (by omega) (by omega), eG _ (by omega) (by omega)]; exact hc.2.2.2.2 i hi
  · intro j k hj hk
    rw [eC _ _ (by omega) (by omega), ez, hb j k hj hk]
    by_cases z : j = n
    · subst z
      rw [if_neg (by omega), if_pos (by omega), eB k hk]
    · by_cases y : j < n
      · rw [if_pos (by omega), if_pos (by omega), eG _ (by omega) (by omega)]
      · rw [if_neg (by omega), if_neg (by omega)]
  · intro u hu
    rw [e6] at hu
    obtain ⟨p1, p2⟩ := hp u hu
    refine ⟨by rw [eC _ _ (by omega) (by omega), eG _ (by omega) (by omega)]; exact p1, fun j k hj hk => ?_⟩
    rw [eC _ _ (by omega) (by omega), eG (106 + 21 * u) (by omega) (by omega), p2 j k hj hk]
    by_cases y : j < ix (g (106 + 21 * u))
    · rw [if_pos y, if_pos y, eG _ (by omega) (by omega)]
    · rw [if_neg y, if_neg y]
theorem InvG_jo {n : Nat} {g g' : Nat → Int32} (hI : InvG g) (hn : n = ix (g 1)) (hn2 : n < 6) (eG : ∀ k, ¬ (25 + 4 * n ≤ k ∧ k < 25 + 4 * n + 4) → k ≠ 1 → g' k = g k) (eZ' : g' 1 = nI (n + 1)) (v0 : rg 99 (g' (25 + 4 * n))) (v1 : okB (ix (g 0)) (g' (26 + 4 * n)) (g' (27 + 4 * n)) (g' (28 + 4 * n))) : InvG g' := by
  obtain ⟨⟨r0, r1, r2, r3, r4, r5, r6⟩, i0, i1, i2, i3, i4, i6⟩ := hI
  have r02 := r0.2
  have r12 := r1.2
  have r22 := r2.2
  have r32 := r3.2
  have r42 := r4.2
  have r62 := r6.2
  have ez : ix (g' 1) = n + 1 := by rw [eZ', ix_nI (by omega)]
  have rz : rg 6 (g' 1) := by rw [eZ']; exact rg_nI (by omega) (by omega)
  have e0 : g' 0 = g 0 := eG _ (by omega) (by omega)
  have e2 : g' 2 = g 2 := eG _ (by omega) (by omega)
  have e3 : g' 3 = g 3 := eG _ (by omega) (by omega)
  have e4 : g' 4 = g 4 := eG _ (by omega) (by omega)
  have e5 : g' 5 = g 5 := eG _ (by omega) (by omega)
  have e6 : g' 6 = g 6 := eG _ (by omega) (by omega)
  refine ⟨⟨by rw [e0]; exact r0, rz, by rw [e2]; exact r2, by rw [e3]; exact r3, by rw [e4]; exact r4, by rw [e5]; exact r5, by rw [e6]; exact r6⟩, ?_, ?_, ?_, ?_, ?_, ?_⟩
  · intro i hi
    rw [e0] at hi
    have := i0 i hi
    rw [eG (7 + 3 * i) (by omega) (by omega), eG (8 + 3 * i) (by omega) (by omega), eG (9 + 3 * i) (by omega) (by omega)]; exact this
  · intro i hi
    rw [ez] at hi
    by_cases z : i = n
    · subst z; rw [e0]; exact ⟨v0, v1⟩
    · have := i1 i (by omega)
      rw [eG (25 + 4 * i) (by omega) (by omega), eG (26 + 4 * i) (by omega) (by omega), eG (27 + 4 * i) (by omega) (by omega), eG (28 + 4 * i) (by omega) (by omega), e0]; exact this
  · intro i hi
    rw [e2] at hi
    have := i2 i hi
    rw [eG (49 + 2 * i) (by omega) (by omega), eG (50 + 2 * i) (by omega) (by omega), ez]; exact ⟨rg_mono this.1 (by have := Nat.pow_le_pow_right (n := 2) (by decide) (show ix (g 1) ≤ n + 1 by omega); omega), this.2⟩
  · intro i hi
    rw [e3] at hi
    have := i3 i hi
    rw [eG (57 + 3 * i) (by omega) (by omega), eG (58 + 3 * i) (by omega) (by omega), eG (59 + 3 * i) (by omega) (by omega), e0]; exact this
  · intro i hi
    rw [e4] at hi
    have := i4 i hi
    rw [eG (87 + 3 * i) (by omega) (by omega), eG (88 + 3 * i) (by omega) (by omega), eG (89 + 3 * i) (by omega) (by omega)]; exact this
  · intro u hu
    rw [e6] at hu
    obtain ⟨p1, p2, p3, p4⟩ := i6 u hu
    have e106 : g' (106 + 21 * u) = g (106 + 21 * u) := eG _ (by omega) (by omega)
    have p22 := p2.2
    refine ⟨by rw [eG _ (by omega) (by omega)]; exact p1, by rw [e106]; exact p2, ?_, fun j hj => ?_⟩
    · rw [e106, ez]; omega
    · rw [e106] at hj
      rw [eG (107 + 21 * u + 3 * j) (by omega) (by omega), eG (108 + 21 * u + 3 * j) (by omega) (by omega), eG (109 + 21 * u + 3 * j) (by omega) (by omega), e0]
      exact p4 j hj
theorem RL_pi {c c' : St} {s n : Nat} {g g' : Nat → Int32} (hI : InvG g) (h : RL c s g) (hn : n = ix (g 2)) (hn2 : n < 4) (eC : ∀ a k, ¬ (a = s + 6 ∧ 2 * n ≤ k ∧ k < 2 * n + 2) → ¬ (a = s + 5 ∧ k = 3) → gi c' a k = gi c a k) (eZ : gi c' (s + 5) 3 = nI (n + 1)) (eG : ∀ k, ¬ (49 + 2 * n ≤ k ∧ k < 49 + 2 * n + 2) → k ≠ 2 → g' k = g k) (eZ' : g' 2 = nI (n + 1)) (eV : ∀ i, i < 2 → gi c' (s + 6) (2 * n + i) = g' (49 + 2 * n + i)) : RL c' s g' := by
  obtain ⟨hl, hs, hc, hb, hp⟩ := h
  obtain ⟨⟨r0, r1, r2, r3, r4, r5, r6⟩, -⟩ := hI
  have r02 := r0.2
  have r12 := r1.2
  have r22 := r2.2
  have r32 := r3.2
  have r42 := r4.2
  have r62 := r6.2
  have ez : ix (g' 2) = n + 1 := by rw [eZ', ix_nI (by omega)]
  have e0 : g' 0 = g 0 := eG _ (by omega) (by omega)
  have e1 : g' 1 = g 1 := eG _ (by omega) (by omega)
  have e3 : g' 3 = g 3 := eG _ (by omega) (by omega)
  have e4 : g' 4 = g 4 := eG _ (by omega) (by omega)
  have e5 : g' 5 = g 5 := eG _ (by omega) (by omega)
  have e6 : g' 6 = g 6 := eG _ (by omega) (by omega)
  refine ⟨?_, ?_, ⟨?_, ?_, ?_, ?_, ?_⟩, ?_, ?_⟩
  · unfold LC at hl ⊢
    rw [eC (s + 1) 0 (by omega) (by omega), eC (s + 1) 1 (by omega) (by omega), eC (s + 3) 0 (by omega) (by omega), eC (s + 3) 1 (by omega) (by omega), eC (s + 5) 0 (by omega) (by omega), eC (s + 5) 1 (by omega) (by omega), eC (s + 7) 0 (by omega) (by omega), eC (s + 7) 1 (by omega) (by omega), eC (s + 9) 0 (by omega) (by omega), eC (s + 9) 1 (by omega) (by omega)]
    exact hl
  · obtain ⟨s0, s1, s2, s3, s4, s5, s6⟩ := hs
    exact ⟨by rw [eC _ _ (by omega) (by omega), e0]; exact s0, by rw [eC _ _ (by omega) (by omega), e1]; exact s1, eZ.trans eZ'.symm, by rw [eC _ _ (by omega) (by omega), e3]; exact s3, by rw [eC _ _ (by omega) (by omega), e4]; exact s4, by rw [eC _ _ (by omega) (by omega), e5]; exact s5, by rw [eC _ _ (by omega) (by omega), e6]; exact s6⟩
  · intro i hi
    rw [e0] at hi
    rw [eC _ _ (by omega) (by omega), eG _ (by omega) (by omega)]; exact hc.1 i hi
  · intro i hi
    rw [e1] at hi
    rw [eC _ _ (by omega) (by omega), eG _ (by omega) (by omega)]; exact hc.2.1 i hi
  · intro i hi
    rw [ez] at hi
    by_cases z : 2 * n ≤ i
    · have := eV (i - 2 * n) (by omega)
      rw [show 2 * n + (i - 2 * n) = i by omega, show 49 + 2 * n + (i - 2 * n) = 49 + i by omega] at this
      exact this
    · rw [eC _ _ (by omega) (by omega), eG _ (by omega) (by omega)]; exact hc.2.2.1 i (by omega)
  · intro i hi
    rw [e3] at hi
    rw [eC _ _ (by omega) (by omega), eG _ (by omega) (by omega)]; exact hc.2.2.2.1 i hi
  · intro i hi
    rw [e4] at hi
    rw [eC _ _ (by omega) (by omega), eG _ (by omega) (by omega)]; exact hc.2.2.2.2 i hi
  · intro j k hj hk
    rw [eC _ _ (by omega) (by omega), e1, hb j k hj hk]
    by_cases y : j < ix (g 1)
    · rw [if_pos y, if_pos y, eG _ (by omega) (by omega)]
    · rw [if_neg y, if_neg y]
  · intro u hu
    rw [e6] at hu
    obtain ⟨p1, p2⟩ := hp u hu
    refine ⟨by rw [eC _ _ (by omega) (by omega), eG _ (by omega) (by omega)]; exact p1, fun j k hj hk => ?_⟩
    rw [eC _ _ (by omega) (by omega), eG (106 + 21 * u) (by omega) (by omega), p2 j k hj hk]
    by_cases y : j < ix (g (106 + 21 * u))
    · rw [if_pos y, if_pos y, eG _ (by omega) (by omega)]
    · rw [if_neg y, if_neg y]
theorem InvG_pi {n : Nat} {g g' : Nat → Int32} (hI : InvG g) (hn : n = ix (g 2)) (hn2 : n < 4) (eG : ∀ k, ¬ (49 + 2 * n ≤ k ∧ k < 49 + 2 * n + 2) → k ≠ 2 → g' k = g k) (eZ' : g' 2 = nI (n + 1)) (v0 : rg (2 ^ ix (g 1) - 1) (g' (49 + 2 * n))) (v1 : 0 < ix (g' (49 + 2 * n))) (v2 : rg 99 (g' (50 + 2 * n))) : InvG g' := by
  obtain ⟨⟨r0, r1, r2, r3, r4, r5, r6⟩, i0, i1, i2, i3, i4, i6⟩ := hI
  have r02 := r0.2
  have r12 := r1.2
  have r22 := r2.2
  have r32 := r3.2
  have r42 := r4.2
  have r62 := r6.2
  have ez : ix (g' 2) = n + 1 := by rw [eZ', ix_nI (by omega)]
  have rz : rg 4 (g' 2) := by rw [eZ']; exact rg_nI (by omega) (by omega)
  have e0 : g' 0 = g 0 := eG _ (by omega) (by omega)
  have e1 : g' 1 = g 1 := eG _ (by omega) (by omega)
  have e3 : g' 3 = g 3 := eG _ (by omega) (by omega)
  have e4 : g' 4 = g 4 := eG _ (by omega) (by omega)
  have e5 : g' 5 = g 5 := eG _ (by omega) (by omega)
  have e6 : g' 6 = g 6 := eG _ (by omega) (by omega)
  refine ⟨⟨by rw [e0]; exact r0, by rw [e1]; exact r1, rz, by rw [e3]; exact r3, by rw [e4]; exact r4, by rw [e5]; exact r5, by rw [e6]; exact r6⟩, ?_, ?_, ?_, ?_, ?_, ?_⟩
  · intro i hi
    rw [e0] at hi
    have := i0 i hi
    rw [eG (7 + 3 * i) (by omega) (by omega), eG (8 + 3 * i) (by omega) (by omega), eG (9 + 3 * i) (by omega) (by omega)]; exact this
  · intro i hi
    rw [e1] at hi
    have := i1 i hi
    rw [eG (25 + 4 * i) (by omega) (by omega), eG (26 + 4 * i) (by omega) (by omega), eG (27 + 4 * i) (by omega) (by omega), eG (28 + 4 * i) (by omega) (by omega), e0]; exact this
  · intro i hi
    rw [ez] at hi
    by_cases z : i = n
    · subst z; rw [e1]; exact ⟨v0, v1, v2⟩
    · have := i2 i (by omega)
      rw [eG (49 + 2 * i) (by omega) (by omega), eG (50 + 2 * i) (by omega) (by omega), e1]; exact this
  · intro i hi
    rw [e3] at hi
    have := i3 i hi
    rw [eG (57 + 3 * i) (by omega) (by omega), eG (58 + 3 * i) (by omega) (by omega), eG (59 + 3 * i) (by omega) (by omega), e0]; exact this
  · intro i hi
    rw [e4] at hi
    have := i4 i hi
    rw [eG (87 + 3 * i) (by omega) (by omega), eG (88 + 3 * i) (by omega) (by omega), eG (89 + 3 * i) (by omega) (by omega)]; exact this
  · intro u hu
    rw [e6] at hu
    obtain ⟨p1, p2, p3, p4⟩ := i6 u hu
    have e106 : g' (106 + 21 * u) = g (106 + 21 * u) := eG _ (by omega) (by omega)
    have p22 := p2.2
    refine ⟨by rw [eG _ (by omega) (by omega)]; exact p1, by rw [e106]; exact p2, ?_, fun j hj => ?_⟩
    · rw [e106, e1]; omega
    · rw [e106] at hj
      rw [eG (107 + 21 * u + 3 * j) (by omega) (by omega), eG (108 + 21 * u + 3 * j) (by omega) (by omega), eG (109 + 21 * u + 3 * j) (by omega) (by omega), e0]
      exact p4 j hj
theorem RL_fe {c c' : St} {s n : Nat} {g g' : Nat → Int32} (hI : InvG g) (h : RL c s g) (hn : n = ix (g 3)) (hn2 : n < 10) (eC : ∀ a k, ¬ (a = s + 8 ∧ 3 * n ≤ k ∧ k < 3 * n + 3) → ¬ (a = s + 7 ∧ k = 3) → gi c' a k = gi c a k) (eZ : gi c' (s + 7) 3 = nI (n + 1)) (eG : ∀ k, ¬ (57 + 3 * n ≤ k ∧ k < 57 + 3 * n + 3) → k ≠ 3 → g' k = g k) (eZ' : g' 3 = nI (n + 1)) (eV : ∀ i, i < 3 → gi c' (s + 8) (3 * n + i) = g' (57 + 3 * n + i)) : RL c' s g' := by
  obtain ⟨hl, hs, hc, hb, hp⟩ := h
  obtain ⟨⟨r0, r1, r2, r3, r4, r5, r6⟩, -⟩ := hI
  have r02 := r0.2
  have r12 := r1.2
  have r22 := r2.2
  have r32 := r3.2
  have r42 := r4.2
  have r62 := r6.2
  have ez : ix (g' 3) = n + 1 := by rw [eZ', ix_nI (by omega)]
  have e0 : g' 0 = g 0 := eG _ (by omega) (by omega)
  have e1 : g' 1 = g 1 := eG _ (by omega) (by omega)
  have e2 : g' 2 = g 2 := eG _ (by omega) (by omega)
  have e4 : g' 4 = g 4 := eG _ (by omega) (by omega)
  have e5 : g' 5 = g 5 := eG _ (by omega) (by omega)
  have e6 : g' 6 = g 6 := eG _ (by omega) (by omega)
  refine ⟨?_, ?_, ⟨?_, ?_, ?_, ?_, ?_⟩, ?_, ?_⟩
  · unfold LC at hl ⊢
    rw [eC (s + 1) 0 (by omega) (by omega), eC (s + 1) 1 (by omega) (by omega), eC (s + 3) 0 (by omega) (by omega), eC (s + 3) 1 (by omega) (by omega), eC (s + 5) 0 (by omega) (by omega), eC (s + 5) 1 (by omega) (by omega), eC (s + 7) 0 (by omega) (by omega), eC (s + 7) 1 (by omega) (by omega), eC (s + 9) 0 (by omega) (by omega), eC (s + 9) 1 (by omega) (by omega)]
    exact hl
  · obtain ⟨s0, s1, s2, s3, s4, s5, s6⟩ := hs
    exact ⟨by rw [eC _ _ (by omega) (by omega), e0]; exact s0, by rw [eC _ _ (by omega) (by omega), e1]; exact s1, by rw [eC _ _ (by omega) (by omega), e2]; exact s2, eZ.trans eZ'.symm, by rw [eC _ _ (by omega) (by omega), e4]; exact s4, by rw [eC _ _ (by omega) (by omega), e5]; exact s5, by rw [eC _ _ (by omega) (by omega), e6]; exact s6⟩
  · intro i hi
    rw [e0] at hi
    rw [eC _ _ (by omega) (by omega), eG _ (by omega) (by omega)]; exact hc.1 i hi
  · intro i hi
    rw [e1] at hi
    rw [eC _ _ (by omega) (by omega), eG _ (by omega) (by omega)]; exact hc.2.1 i hi
  · intro i hi
    rw [e2] at hi
    rw [eC _ _ (by omega) (by omega), eG _ (by omega) (by omega)]; exact hc.2.2.1 i hi
  · intro i hi
    rw [ez] at hi
    by_cases z : 3 * n ≤ i
    · have := eV (i - 3 * n) (by omega)
      rw [show 3 * n + (i - 3 * n) = i by omega, show 57 + 3 * n + (i - 3 * n) = 57 + i by omega] at this
      exact this
    · rw [eC _ _ (by omega) (by omega), eG _ (by omega) (by omega)]; exact hc.2.2.2.1 i (by omega)
  · intro i hi
    rw [e4] at hi
    rw [eC _ _ (by omega) (by omega), eG _ (by omega) (by omega)]; exact hc.2.2.2.2 i hi
  · intro j k hj hk
    rw [eC _ _ (by omega) (by omega), e1, hb j k hj hk]
    by_cases y : j < ix (g 1)
    · rw [if_pos y, if_pos y, eG _ (by omega) (by omega)]
    · rw [if_neg y, if_neg y]
  · intro u hu
    rw [e6] at hu
    obtain ⟨p1, p2⟩ := hp u hu
    refine ⟨by rw [eC _ _ (by omega) (by omega), eG _ (by omega) (by omega)]; exact p1, fun j k hj hk => ?_⟩
    rw [eC _ _ (by omega) (by omega), eG (106 + 21 * u) (by omega) (by omega), p2 j k hj hk]
    by_cases y : j < ix (g (106 + 21 * u))
    · rw [if_pos y, if_pos y, eG _ (by omega) (by omega)]
    · rw [if_neg y, if_neg y]
theorem InvG_fe {n : Nat} {g g' : Nat → Int32} (hI : InvG g) (hn : n = ix (g 3)) (hn2 : n < 10) (eG : ∀ k, ¬ (57 + 3 * n ≤ k ∧ k < 57 + 3 * n + 3) → k ≠ 3 → g' k = g k) (eZ' : g' 3 = nI (n + 1)) (v0 : rg 1 (g' (57 + 3 * n))) (v1 : rg 99 (g' (58 + 3 * n))) (v2 : 0 < ix (g' (58 + 3 * n))) (v3 : rg 5 (g' (59 + 3 * n))) (v4 : ix (g' (59 + 3 * n)) < ix (g 0)) : InvG g' := by
  obtain ⟨⟨r0, r1, r2, r3, r4, r5, r6⟩, i0, i1, i2, i3, i4, i6⟩ := hI
  have r02 := r0.2
  have r12 := r1.2
  have r22 := r2.2
  have r32 := r3.2
  have r42 := r4.2
  have r62 := r6.2
  have ez : ix (g' 3) = n + 1 := by rw [eZ', ix_nI (by omega)]
  have rz : rg 10 (g' 3) := by rw [eZ']; exact rg_nI (by omega) (by omega)
  have e0 : g' 0 = g 0 := eG _ (by omega) (by omega)
  have e1 : g' 1 = g 1 := eG _ (by omega) (by omega)
  have e2 : g' 2 = g 2 := eG _ (by omega) (by omega)
  have e4 : g' 4 = g 4 := eG _ (by omega) (by omega)
  have e5 : g' 5 = g 5 := eG _ (by omega) (by omega)
  have e6 : g' 6 = g 6 := eG _ (by omega) (by omega)
  refine ⟨⟨by rw [e0]; exact r0, by rw [e1]; exact r1, by rw [e2]; exact r2, rz, by rw [e4]; exact r4, by rw [e5]; exact r5, by rw [e6]; exact r6⟩, ?_, ?_, ?_, ?_, ?_, ?_⟩
  · intro i hi
    rw [e0] at hi
    have := i0 i hi
    rw [eG (7 + 3 * i) (by omega) (by omega), eG (8 + 3 * i) (by omega) (by omega), eG (9 + 3 * i) (by omega) (by omega)]; exact this
  · intro i hi
    rw [e1] at hi
    have := i1 i hi
    rw [eG (25 + 4 * i) (by omega) (by omega), eG (26 + 4 * i) (by omega) (by omega), eG (27 + 4 * i) (by omega) (by omega), eG (28 + 4 * i) (by omega) (by omega), e0]; exact this
  · intro i hi
    rw [e2] at hi
    have := i2 i hi
    rw [eG (49 + 2 * i) (by omega) (by omega), eG (50 + 2 * i) (by omega) (by omega), e1]; exact this
  · intro i hi
    rw [ez] at hi
    by_cases z : i = n
    · subst z; rw [e0]; exact ⟨v0, v1, v2, v3, v4⟩
    · have := i3 i (by omega)
      rw [eG (57 + 3 * i) (by omega) (by omega), eG (58 + 3 * i) (by omega) (by omega), eG (59 + 3 * i) (by omega) (by omega), e0]; exact this
  · intro i hi
    rw [e4] at hi
    have := i4 i hi
    rw [eG (87 + 3 * i) (by omega) (by omega), eG (88 + 3 * i) (by omega) (by omega), eG (89 + 3 * i) (by omega) (by omega)]; exact this
  · intro u hu
    rw [e6] at hu
    obtain ⟨p1, p2, p3, p4⟩ := i6 u hu
    have e106 : g' (106 + 21 * u) = g (106 + 21 * u) := eG _ (by omega) (by omega)
    have p22 := p2.2
    refine ⟨by rw [eG _ (by omega) (by omega)]; exact p1, by rw [e106]; exact p2, ?_, fun j hj => ?_⟩
    · rw [e106, e1]; omega
    · rw [e106] at hj
      rw [eG (107 + 21 * u + 3 * j) (by omega) (by omega), eG (108 + 21 * u + 3 * j) (by omega) (by omega), eG (109 + 21 * u + 3 * j) (by omega) (by omega), e0]
      exact p4 j hj
theorem RL_fa {c c' : St} {s n : Nat} {g g' : Nat → Int32} (hI : InvG g) (h : RL c s g) (hn : n = ix (g 4)) (hn2 : n < 6) (eC : ∀ a k, ¬ (a = s + 10 ∧ 3 * n ≤ k ∧ k < 3 * n + 3) → ¬ (a = s + 9 ∧ k = 3) → gi c' a k = gi c a k) (eZ : gi c' (s + 9) 3 = nI (n + 1)) (eG : ∀ k, ¬ (87 + 3 * n ≤ k ∧ k < 87 + 3 * n + 3) → k ≠ 4 → g' k = g k) (eZ' : g' 4 = nI (n + 1)) (eV : ∀ i, i < 3 → gi c' (s + 10) (3 * n + i) = g' (87 + 3 * n + i)) : RL c' s g' := by
  obtain ⟨hl, hs, hc, hb, hp⟩ := h
  obtain ⟨⟨r0, r1, r2, r3, r4, r5, r6⟩, -⟩ := hI
  have r02 := r0.2
  have r12 := r1.2
  have r22 := r2.2
  have r32 := r3.2
  have r42 := r4.2
  have r62 := r6.2
  have ez : ix (g' 4) = n + 1 := by rw [eZ', ix_nI (by omega)]
  have e0 : g' 0 = g 0 := eG _ (by omega) (by omega)
  have e1 : g' 1 = g 1 := eG _ (by omega) (by omega)
  have e2 : g' 2 = g 2 := eG _ (by omega) (by omega)
  have e3 : g' 3 = g 3 := eG _ (by omega) (by omega)
  have e5 : g' 5 = g 5 := eG _ (by omega) (by omega)
  have e6 : g' 6 = g 6 := eG _ (by omega) (by omega)
  refine ⟨?_, ?_, ⟨?_, ?_, ?_, ?_, ?_⟩, ?_, ?_⟩
  · unfold LC at hl ⊢
    rw [eC (s + 1) 0 (by omega) (by omega), eC (s + 1) 1 (by omega) (by omega), eC (s + 3) 0 (by omega) (by omega), eC (s + 3) 1 (by omega) (by omega), eC (s + 5) 0 (by omega) (by omega), eC (s + 5) 1 (by omega) (by omega), eC (s + 7) 0 (by omega) (by omega), eC (s + 7) 1 (by omega) (by omega), eC (s + 9) 0 (by omega) (by omega), eC (s + 9) 1 (by omega) (by omega)]
    exact hl
  · obtain ⟨s0, s1, s2, s3, s4, s5, s6⟩ := hs
    exact ⟨by rw [eC _ _ (by omega) (by omega), e0]; exact s0, by rw [eC _ _ (by omega) (by omega), e1]; exact s1, by rw [eC _ _ (by omega) (by omega), e2]; exact s2, by rw [eC _ _ (by omega) (by omega), e3]; exact s3, eZ.trans eZ'.symm, by rw [eC _ _ (by omega) (by omega), e5]; exact s5, by rw [eC _ _ (by omega) (by omega), e6]; exact s6⟩
  · intro i hi
    rw [e0] at hi
    rw [eC _ _ (by omega) (by omega), eG _ (by omega) (by omega)]; exact hc.1 i hi
  · intro i hi
    rw [e1] at hi
    rw [eC _ _ (by omega) (by omega), eG _ (by omega) (by omega)]; exact hc.2.1 i hi
  · intro i hi
    rw [e2] at hi
    rw [eC _ _ (by omega) (by omega), eG _ (by omega) (by omega)]; exact hc.2.2.1 i hi
  · intro i hi
    rw [e3] at hi
    rw [eC _ _ (by omega) (by omega), eG _ (by omega) (by omega)]; exact hc.2.2.2.1 i hi
  · intro i hi
    rw [ez] at hi
    by_cases z : 3 * n ≤ i
    · have := eV (i - 3 * n) (by omega)
      rw [show 3 * n + (i - 3 * n) = i by omega, show 87 + 3 * n + (i - 3 * n) = 87 + i by omega] at this
      exact this
    · rw [eC _ _ (by omega) (by omega), eG _ (by omega) (by omega)]; exact hc.2.2.2.2 i (by omega)
  · intro j k hj hk
    rw [eC _ _ (by omega) (by omega), e1, hb j k hj hk]
    by_cases y : j < ix (g 1)
    · rw [if_pos y, if_pos y, eG _ (by omega) (by omega)]
    · rw [if_neg y, if_neg y]
  · intro u hu
    rw [e6] at hu
    obtain ⟨p1, p2⟩ := hp u hu
    refine ⟨by rw [eC _ _ (by omega) (by omega), eG _ (by omega) (by omega)]; exact p1, fun j k hj hk => ?_⟩
    rw [eC _ _ (by omega) (by omega), eG (106 + 21 * u) (by omega) (by omega), p2 j k hj hk]
    by_cases y : j < ix (g (106 + 21 * u))
    · rw [if_pos y, if_pos y, eG _ (by omega) (by omega)]
    · rw [if_neg y, if_neg y]
theorem InvG_fa {n : Nat} {g g' : Nat → Int32} (hI : InvG g) (hn : n = ix (g 4)) (hn2 : n < 6) (eG : ∀ k, ¬ (87 + 3 * n ≤ k ∧ k < 87 + 3 * n + 3) → k ≠ 4 → g' k = g k) (eZ' : g' 4 = nI (n + 1)) (v0 : rg 99 (g' (87 + 3 * n))) (v1 : rg 99 (g' (88 + 3 * n))) (v2 : rg 100 (g' (89 + 3 * n))) (v3 : ix (g' (88 + 3 * n)) ≤ ix (g' (89 + 3 * n))) : InvG g' := by
  obtain ⟨⟨r0, r1, r2, r3, r4, r5, r6⟩, i0, i1, i2, i3, i4, i6⟩ := hI
  have r02 := r0.2
  have r12 := r1.2
  have r22 := r2.2
  have r32 := r3.2
  have r42 := r4.2
  have r62 := r6.2
  have ez : ix (g' 4) = n + 1 := by rw [eZ', ix_nI (by omega)]
  have rz : rg 6 (g' 4) := by rw [eZ']; exact rg_nI (by omega) (by omega)
  have e0 : g' 0 = g 0 := eG _ (by omega) (by omega)
  have e1 : g' 1 = g 1 := eG _ (by omega) (by omega)
  have e2 : g' 2 = g 2 := eG _ (by omega) (by omega)
  have e3 : g' 3 = g 3 := eG _ (by omega) (by omega)
  have e5 : g' 5 = g 5 := eG _ (by omega) (by omega)
  have e6 : g' 6 = g 6 := eG _ (by omega) (by omega)
  refine ⟨⟨by rw [e0]; exact r0, by rw [e1]; exact r1, by rw [e2]; exact r2, by rw [e3]; exact r3, rz, by rw [e5]; exact r5, by rw [e6]; exact r6⟩, ?_, ?_, ?_, ?_, ?_, ?_⟩
  · intro i hi
    rw [e0] at hi
    have := i0 i hi
    rw [eG (7 + 3 * i) (by omega) (by omega), eG (8 + 3 * i) (by omega) (by omega), eG (9 + 3 * i) (by omega) (by omega)]; exact this
  · intro i hi
    rw [e1] at hi
    have := i1 i hi
    rw [eG (25 + 4 * i) (by omega) (by omega), eG (26 + 4 * i) (by omega) (by omega), eG (27 + 4 * i) (by omega) (by omega), eG (28 + 4 * i) (by omega) (by omega), e0]; exact this
  · intro i hi
    rw [e2] at hi
    have := i2 i hi
    rw [eG (49 + 2 * i) (by omega) (by omega), eG (50 + 2 * i) (by omega) (by omega), e1]; exact this
  · intro i hi
    rw [e3] at hi
    have := i3 i hi
    rw [eG (57 + 3 * i) (by omega) (by omega), eG (58 + 3 * i) (by omega) (by omega), eG (59 + 3 * i) (by omega) (by omega), e0]; exact this
  · intro i hi
    rw [ez] at hi
    by_cases z : i = n
    · subst z; exact ⟨v0, v1, v2, v3⟩
    · have := i4 i (by omega)
      rw [eG (87 + 3 * i) (by omega) (by omega), eG (88 + 3 * i) (by omega) (by omega), eG (89 + 3 * i) (by omega) (by omega)]; exact this
  · intro u hu
    rw [e6] at hu
    obtain ⟨p1, p2, p3, p4⟩ := i6 u hu
    have e106 : g' (106 + 21 * u) = g (106 + 21 * u) := eG _ (by omega) (by omega)
    have p22 := p2.2
    refine ⟨by rw [eG _ (by omega) (by omega)]; exact p1, by rw [e106]; exact p2, ?_, fun j hj => ?_⟩
    · rw [e106, e1]; omega
    · rw [e106] at hj
      rw [eG (107 + 21 * u + 3 * j) (by omega) (by omega), eG (108 + 21 * u + 3 * j) (by omega) (by omega), eG (109 + 21 * u + 3 * j) (by omega) (by omega), e0]
      exact p4 j hj
