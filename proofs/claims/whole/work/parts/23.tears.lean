/-! the griefs of the next day, by those of this one -/
theorem feU_sn {g : Nat → Int32} {w : Int32} {m d : Nat} : ∀ (n f v : Nat), feU g w m d f (n + 1) v = fe1 g w m d (f + n) (feU g w m d f n v)
  | 0, _, _ => rfl
  | n + 1, f, v => by
    show feU g w m d (f + 1) (n + 1) (fe1 g w m d f v) = _
    rw [feU_sn n (f + 1), show f + 1 + n = f + (n + 1) by omega]; rfl
theorem c_fn68 {f m d kd : Nat} {g : Nat → Int32} (hI : InvG g) (hf : f < ix (g 3)) (hk : kd = ix (g (57 + 3 * f))) (K : St → Nat → Nat → Int32 → Int32 → Int32 → Option (Unit × St)) (F : Nat → Nat) (hF : ∀ e, F e ≤ 99) : ∀ (n N e : Nat) (x : St), e + n = 100 → n < N → RL x 16 g → (∀ i, i < e → gi x 11 i = nI (feastN kd (F i))) → (∀ i, e ≤ i → i < 100 → gi x 11 i = nI (F i)) →
    ∃ y, ff_SH_fillNextGriefs_68 K N x 16 11 (nI m) (nI d) (nI f) (nI e) = K y 16 11 (nI m) (nI d) (nI (f + 1)) ∧ only 11 x y ∧ ∀ i, i < 100 → gi y 11 i = nI (feastN kd (F i)) := by
  have hs : sp 16 := Or.inl rfl
  have r0 := (hI.2.2.2.2.1 f hf).1
  intro n
  induction n with
  | zero =>
    intro N e x he hN h h1 h2
    obtain ⟨N, rfl⟩ : ∃ K, N = K + 1 := ⟨N - 1, by omega⟩
    refine ⟨x, ?_, only_rf, fun i hi => h1 i (by omega)⟩
    show (if (100 : Int32) ≤ nI e then _ else _) = _
    rw [if_pos (show (100 : Int32) ≤ nI e from nI_le (a := 100) (by omega) (by omega)), nI_1]
  | succ n ih =>
    intro N e x he hN h h1 h2
    obtain ⟨N, rfl⟩ : ∃ K, N = K + 1 := ⟨N - 1, by omega⟩
    obtain ⟨y, g1, g2, g3⟩ := ih N (e + 1) (si x 11 e (nI (feastN kd (F e)))) (by omega) (by omega) (RL_only h (only_si _ _ _ _) (by omega)) (fun i hi => by
      by_cases q : i = e
      · subst q; exact gi_si_s _ _ _ _
      · rw [gi_si_n _ _ _ _ (by omega)]; exact h1 i (by omega)) (fun i hi hi2 => by rw [gi_si_n _ _ _ _ (by omega)]; exact h2 i (by omega) hi2)
    refine ⟨y, ?_, only_tr (only_si _ _ _ _) g2, g3⟩
    rw [← g1]
    have e0 := at_fe hs hI h hf (c := 0) (by decide)
    rw [Nat.add_zero, r0.1, ← hk] at e0
    show (if (100 : Int32) ≤ nI e then _ else _) = _
    rw [if_neg (show ¬ (100 : Int32) ≤ nI e from nI_ge (b := 100) (by omega) (by decide)), show (0 : Int32) = nI 0 from rfl, e0, bnd_some, show ln 11 = 100 from rfl, if_pos (ixb_nI (by omega) (by omega)), ix_nI (by omega), h2 e (by omega) (by omega), c_feast x (by have := r0.2; omega) (hF e), bnd_some, if_pos (ixb_nI (by omega) (by omega)), st_eq, nI_1]
theorem c_fn42 {m d : Nat} {g : Nat → Int32} (hI : InvG g) (hm : m < ix (g 0)) : ∀ (n N f : Nat) (x : St), f + n = ix (g 3) → n < N → RL x 16 g → (∀ i, i < 100 → gi x 11 i = nI (feU g (-1) m d 0 f (stepN (ix (g (7 + 3 * m))) i d))) →
    ∃ y, ff_SH_fillNextGriefs_42 N x 16 11 (nI m) (nI d) (nI f) = some ((), y) ∧ only 11 x y ∧ ∀ i, i < 100 → gi y 11 i = nI (dayN g (-1) m i d) := by
  have hs : sp 16 := Or.inl rfl
  have hF := hI.1.2.2.2.1
  have hF2 := hF.2
  intro n
  induction n with
  | zero =>
    intro N f x hf hN h h1
    obtain ⟨N, rfl⟩ : ∃ K, N = K + 1 := ⟨N - 1, by omega⟩
    have hz : gi x (rf 16 3) 3 = nI (ix (g 3)) := by rw [(sp_rf hs).2.2.2.1, h.2.1.2.2.2.1]; exact hF.1
    refine ⟨x, ?_, only_rf, fun i hi => ?_⟩
    · show (if gi x (rf 16 3) 3 ≤ nI f then _ else _) = _
      rw [hz, if_pos (nI_le (by omega) (by omega))]
    · have e : f = ix (g 3) := by omega
      rw [h1 i hi, e]; rfl
  | succ n ih =>
    intro N f x hf hN h h1
    obtain ⟨N, rfl⟩ : ∃ K, N = K + 1 := ⟨N - 1, by omega⟩
    have hz : gi x (rf 16 3) 3 = nI (ix (g 3)) := by rw [(sp_rf hs).2.2.2.1, h.2.1.2.2.2.1]; exact hF.1
    have sn : ∀ i, feU g (-1) m d 0 (f + 1) (stepN (ix (g (7 + 3 * m))) i d) = fe1 g (-1) m d f (feU g (-1) m d 0 f (stepN (ix (g (7 + 3 * m))) i d)) := fun i => by rw [feU_sn, Nat.zero_add]
    by_cases q : g (58 + 3 * f) = nI d ∧ g (59 + 3 * f) = nI m
    · have hh : hit g (-1) m d f = true := by unfold hit; rw [decide_eq_true_eq]; exact ⟨nI_ne_m1 (by omega), q⟩
      obtain ⟨y, y1, y2, y3⟩ := c_fn68 (m := m) (d := d) hI (f := f) (by omega) rfl (ff_SH_fillNextGriefs_42 N) (fun i => if i < 100 then feU g (-1) m d 0 f (stepN (ix (g (7 + 3 * m))) i d) else 0) (fun e => by
        by_cases z : e < 100
        · rw [if_pos z]; exact feU_le _ _ _ (Nat.le_trans (stepN_le _ _ _) (by omega))
        · rw [if_neg z]; omega) 100 FU 0 x (by omega) (by unfold FU; omega) h (fun i hi => by omega) (fun i _ hi => by rw [h1 i hi, if_pos hi])
      obtain ⟨w, w1, w2, w3⟩ := ih N (f + 1) y (by omega) (by omega) (RL_only h y2 (by omega)) (fun i hi => by
        rw [y3 i hi, if_pos hi, sn i]
        unfold fe1
        rw [if_pos hh])
      refine ⟨w, ?_, only_tr y2 w2, w3⟩
      rw [← w1, ← y1]
      show (if gi x (rf 16 3) 3 ≤ nI f then _ else _) = _
      rw [hz, if_neg (nI_ge (by omega) (by omega)), c_isFeastOf hs hI h (by omega), bnd_some, if_pos q, if_neg (by decide)]; rfl
    · have hh : hit g (-1) m d f = false := by unfold hit; rw [decide_eq_false_iff_not]; exact fun z => q z.2
      obtain ⟨w, w1, w2, w3⟩ := ih N (f + 1) x (by omega) (by omega) h (fun i hi => by
        rw [h1 i hi, sn i]
        unfold fe1
        rw [hh, if_neg (by decide)])
      refine ⟨w, ?_, w2, w3⟩
      rw [← w1]
      show (if gi x (rf 16 3) 3 ≤ nI f then _ else _) = _
      rw [hz, if_neg (nI_ge (by omega) (by omega)), c_isFeastOf hs hI h (by omega), bnd_some, if_neg q, if_pos rfl, nI_1]
theorem c_fn14 {m d : Nat} {g : Nat → Int32} (hI : InvG g) (hm : m < ix (g 0)) (hd : d ≤ 99) : ∀ (n N e : Nat) (x : St), e + n = 100 → n < N → RL x 16 g → (∀ i, i < e → gi x 11 i = nI (stepN (ix (g (7 + 3 * m))) i d)) →
    ∃ y, ff_SH_fillNextGriefs_14 N x 16 11 (nI m) (nI d) (nI (ix (g (7 + 3 * m)))) (nI e) = some ((), y) ∧ only 11 x y ∧ ∀ i, i < 100 → gi y 11 i = nI (dayN g (-1) m i d) := by
  have hF2 := hI.1.2.2.2.1.2
  have k1 := (hI.2.1 m hm).1
  intro n
  induction n with
  | zero =>
    intro N e x he hN h h1
    obtain ⟨N, rfl⟩ : ∃ K, N = K + 1 := ⟨N - 1, by omega⟩
    obtain ⟨y, y1, y2, y3⟩ := c_fn42 (d := d) hI hm (ix (g 3)) FU 0 x (by omega) (by unfold FU; omega) h (fun i hi => h1 i (by omega))
    refine ⟨y, ?_, y2, y3⟩
    rw [← y1]
    show (if (100 : Int32) ≤ nI e then _ else _) = _
    rw [if_pos (show (100 : Int32) ≤ nI e from nI_le (a := 100) (by omega) (by omega))]; rfl
  | succ n ih =>
    intro N e x he hN h h1
    obtain ⟨N, rfl⟩ : ∃ K, N = K + 1 := ⟨N - 1, by omega⟩
    obtain ⟨y, g1, g2, g3⟩ := ih N (e + 1) (si x 11 e (nI (stepN (ix (g (7 + 3 * m))) e d))) (by omega) (by omega) (RL_only h (only_si _ _ _ _) (by omega)) (fun i hi => by
      by_cases q : i = e
      · subst q; exact gi_si_s _ _ _ _
      · rw [gi_si_n _ _ _ _ (by omega)]; exact h1 i (by omega))
    refine ⟨y, ?_, only_tr (only_si _ _ _ _) g2, g3⟩
    rw [← g1]
    show (if (100 : Int32) ≤ nI e then _ else _) = _
    rw [if_neg (show ¬ (100 : Int32) ≤ nI e from nI_ge (b := 100) (by omega) (by decide)), c_step x k1.2 (by omega) (by omega), bnd_some, show ln 11 = 100 from rfl, if_pos (ixb_nI (by omega) (by omega)), ix_nI (by omega), st_eq, nI_1]
theorem c_fillNext {x : St} {m d : Nat} {g : Nat → Int32} (hI : InvG g) (h : RL x 16 g) (hm : m < ix (g 0)) (hd : d ≤ 99) : ∃ y, ff_SH_fillNextGriefs x 16 11 (nI m) (nI d) = some ((), y) ∧ only 11 x y ∧ ∀ i, i < 100 → gi y 11 i = nI (dayN g (-1) m i d) := by
  have hs : sp 16 := Or.inl rfl
  obtain ⟨y, y1, y2, y3⟩ := c_fn14 hI hm hd 100 FU 0 x (by omega) (by unfold FU; omega) h (fun i hi => by omega)
  refine ⟨y, ?_, y2, y3⟩
  rw [← y1]
  have e0 := at_mo hs hI h hm (c := 0) (by decide)
  rw [Nat.add_zero, ((hI.2.1 m hm).1).1] at e0
  unfold ff_SH_fillNextGriefs
  rw [show (0 : Int32) = nI 0 from rfl, e0, bnd_some]
theorem c_griefOn {x : St} {s m d : Nat} {g : Nat → Int32} (hs : sp s) (hI : InvG g) (h : RS x s g) (hm : m < ix (g 0)) (hd : d ≤ 99) : ff_SH_griefOn x s (nI m) (nI d) = some (nI (GR g (-1) m d), x) := by
  have hM := hI.1.1
  have hM2 := hM.2
  unfold ff_SH_griefOn
  rw [p_has, bnd_some, (sp_rf hs).1, h.1.2.1.1, hM.1, hs_yes hm (by omega), if_neg (by decide), p_within, bnd_some, show (0 : Int32) = nI 0 from rfl, show (99 : Int32) = nI 99 from rfl, wn_yes (by omega) hd (by decide), if_neg (by decide), (sp_rf hs).2.2.2.2.2.1, (sp_ln hs).2.2.2.2.2.1, if_pos (ixb_nI (by omega) (by omega)), ix_nI (by omega), (sp_row hs (by omega)).1, (sp_row hs (by omega)).2, if_pos (ixb_nI (by omega) (by omega)), ix_nI (by omega), h.2 m hm d (by omega)]
