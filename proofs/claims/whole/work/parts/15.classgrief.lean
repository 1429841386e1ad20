/-! the class: one shop's ledgers -/
theorem p_at {x : St} {q r c n w : Nat} (hz : gi x q 3 = nI n) (hw : gi x q 1 = nI w) (hr : r < n) (hc : c < w) (hn : n < 100) (hw2 : w < 10) (hl : r * w + c < ln (rf q 2)) : ff_LE_at x q (nI r) (nI c) = some (gi x (rf q 2) (r * w + c), x) := by
  have hb : r * w < 1000 := by
    have h1 : r * w ≤ 99 * w := Nat.mul_le_mul_right w (by omega)
    omega
  unfold ff_LE_at
  rw [p_has, bnd_some, hz, hs_yes hr (by omega), if_neg (by decide), if_neg (nI_pos (by omega)), hw, if_pos (nI_lt hc (by omega)), pk_mul, nI_add, if_pos (ixb_nI hl (by omega)), ix_nI (by omega)]
def LC (x : St) (s : Nat) : Prop := (gi x (s + 1) 0 = 6 ∧ gi x (s + 1) 1 = 3) ∧ (gi x (s + 3) 0 = 6 ∧ gi x (s + 3) 1 = 1) ∧ (gi x (s + 5) 0 = 4 ∧ gi x (s + 5) 1 = 2) ∧ (gi x (s + 7) 0 = 10 ∧ gi x (s + 7) 1 = 3) ∧ (gi x (s + 9) 0 = 6 ∧ gi x (s + 9) 1 = 3)
def RLs (x : St) (s : Nat) (g : Nat → Int32) : Prop := gi x (s + 1) 3 = g 0 ∧ gi x (s + 3) 3 = g 1 ∧ gi x (s + 5) 3 = g 2 ∧ gi x (s + 7) 3 = g 3 ∧ gi x (s + 9) 3 = g 4 ∧ gi x s 9 = g 5 ∧ gi x s 8 = g 6
def RLc (x : St) (s : Nat) (g : Nat → Int32) : Prop := (∀ i, i < 3 * ix (g 0) → gi x (s + 2) i = g (7 + i)) ∧ (∀ j, j < ix (g 1) → gi x (s + 4) j = g (25 + 4 * j)) ∧ (∀ i, i < 2 * ix (g 2) → gi x (s + 6) i = g (49 + i)) ∧ (∀ i, i < 3 * ix (g 3) → gi x (s + 8) i = g (57 + i)) ∧ (∀ i, i < 3 * ix (g 4) → gi x (s + 10) i = g (87 + i))
def RLb (x : St) (s : Nat) (g : Nat → Int32) : Prop := ∀ j k, j < 6 → k < 3 → gi x (s + 18) (3 * j + k) = if j < ix (g 1) then g (26 + 4 * j + k) else -1
def RLp (x : St) (s : Nat) (g : Nat → Int32) : Prop := ∀ u, u < ix (g 6) → gi x (s + 19) (19 * u) = g (105 + 21 * u) ∧ ∀ j k, j < 6 → k < 3 → gi x (s + 19) (19 * u + 1 + 3 * j + k) = if j < ix (g (106 + 21 * u)) then g (107 + 21 * u + 3 * j + k) else -1
def RSg (x : St) (s : Nat) (g : Nat → Int32) : Prop := ∀ m, m < ix (g 0) → ∀ e, e < 100 → gi x (s + 12 + m) e = nI (GR g (-1) m e)
def RL (x : St) (s : Nat) (g : Nat → Int32) : Prop := LC x s ∧ RLs x s g ∧ RLc x s g ∧ RLb x s g ∧ RLp x s g
def RS (x : St) (s : Nat) (g : Nat → Int32) : Prop := RL x s g ∧ RSg x s g
theorem LC_eq {x y : St} {s : Nat} (h : LC x s) (e : ∀ a k, s ≤ a → a < s + 20 → ¬ (s + 11 ≤ a ∧ a < s + 18) → gi y a k = gi x a k) : LC y s := by
  unfold LC at h ⊢
  rw [e (s + 1) 0 (by omega) (by omega) (by omega), e (s + 1) 1 (by omega) (by omega) (by omega), e (s + 3) 0 (by omega) (by omega) (by omega), e (s + 3) 1 (by omega) (by omega) (by omega), e (s + 5) 0 (by omega) (by omega) (by omega), e (s + 5) 1 (by omega) (by omega) (by omega), e (s + 7) 0 (by omega) (by omega) (by omega), e (s + 7) 1 (by omega) (by omega) (by omega), e (s + 9) 0 (by omega) (by omega) (by omega), e (s + 9) 1 (by omega) (by omega) (by omega)]
  exact h
theorem RL_eq {x y : St} {s : Nat} {g : Nat → Int32} (h : RL x s g) (e : ∀ a k, s ≤ a → a < s + 20 → ¬ (s + 11 ≤ a ∧ a < s + 18) → gi y a k = gi x a k) : RL y s g := by
  obtain ⟨h1, h2, h3, h4, h5⟩ := h
  refine ⟨LC_eq h1 e, ?_, ?_, ?_, ?_⟩
  · unfold RLs at h2 ⊢
    rw [e (s + 1) 3 (by omega) (by omega) (by omega), e (s + 3) 3 (by omega) (by omega) (by omega), e (s + 5) 3 (by omega) (by omega) (by omega), e (s + 7) 3 (by omega) (by omega) (by omega), e (s + 9) 3 (by omega) (by omega) (by omega), e s 9 (by omega) (by omega) (by omega), e s 8 (by omega) (by omega) (by omega)]
    exact h2
  · obtain ⟨a1, a2, a3, a4, a5⟩ := h3
    exact ⟨fun i hi => by rw [e _ _ (by omega) (by omega) (by omega)]; exact a1 i hi, fun i hi => by rw [e _ _ (by omega) (by omega) (by omega)]; exact a2 i hi, fun i hi => by rw [e _ _ (by omega) (by omega) (by omega)]; exact a3 i hi, fun i hi => by rw [e _ _ (by omega) (by omega) (by omega)]; exact a4 i hi, fun i hi => by rw [e _ _ (by omega) (by omega) (by omega)]; exact a5 i hi⟩
  · exact fun j k hj hk => by rw [e _ _ (by omega) (by omega) (by omega)]; exact h4 j k hj hk
  · exact fun u hu => ⟨by rw [e _ _ (by omega) (by omega) (by omega)]; exact (h5 u hu).1, fun j k hj hk => by rw [e _ _ (by omega) (by omega) (by omega)]; exact (h5 u hu).2 j k hj hk⟩
theorem RL_only {x y : St} {s q : Nat} {g : Nat → Int32} (h : RL x s g) (ho : only q x y) (hq : q < s ∨ (s + 11 ≤ q ∧ q < s + 18) ∨ s + 20 ≤ q) : RL y s g := RL_eq h (fun a k h1 h2 h3 => ho.1 a k (by omega))
theorem RS_eq {x y : St} {s : Nat} {g : Nat → Int32} (hM : ix (g 0) ≤ 6) (h : RS x s g) (e : ∀ a k, s ≤ a → a < s + 20 → gi y a k = gi x a k) : RS y s g :=
  ⟨RL_eq h.1 (fun a k h1 h2 _ => e a k h1 h2), fun m hm d hd => by rw [e _ _ (by omega) (by omega)]; exact h.2 m hm d hd⟩
theorem at_mo {x : St} {s i c : Nat} {g : Nat → Int32} (hs : sp s) (hI : InvG g) (h : RL x s g) (hi : i < ix (g 0)) (hc : c < 3) : ff_LE_at x (rf s 0) (nI i) (nI c) = some (g (7 + 3 * i + c), x) := by
  have hM := hI.1.1
  have hM2 := hM.2
  rw [(sp_rf hs).1, p_at (n := ix (g 0)) (w := 3) (h.2.1.1.trans hM.1) h.1.1.2 hi hc (by omega) (by omega) (by rw [(sp_le hs).1, (sp_ln hs).1]; omega), (sp_le hs).1, h.2.2.1.1 _ (by omega)]
  congr 3; omega
theorem at_jo {x : St} {s i : Nat} {g : Nat → Int32} (hs : sp s) (hI : InvG g) (h : RL x s g) (hi : i < ix (g 1)) : ff_LE_at x (rf s 1) (nI i) (nI 0) = some (g (25 + 4 * i), x) := by
  have hM := hI.1.2.1
  have hM2 := hM.2
  rw [(sp_rf hs).2.1, p_at (n := ix (g 1)) (w := 1) (h.2.1.2.1.trans hM.1) h.1.2.1.2 hi (by omega) (by omega) (by omega) (by rw [(sp_le hs).2.1, (sp_ln hs).2.1]; omega), (sp_le hs).2.1, show i * 1 + 0 = i by omega, h.2.2.1.2.1 _ hi]
theorem at_pi {x : St} {s i c : Nat} {g : Nat → Int32} (hs : sp s) (hI : InvG g) (h : RL x s g) (hi : i < ix (g 2)) (hc : c < 2) : ff_LE_at x (rf s 2) (nI i) (nI c) = some (g (49 + 2 * i + c), x) := by
  have hM := hI.1.2.2.1
  have hM2 := hM.2
  rw [(sp_rf hs).2.2.1, p_at (n := ix (g 2)) (w := 2) (h.2.1.2.2.1.trans hM.1) h.1.2.2.1.2 hi hc (by omega) (by omega) (by rw [(sp_le hs).2.2.1, (sp_ln hs).2.2.1]; omega), (sp_le hs).2.2.1, h.2.2.1.2.2.1 _ (by omega)]
  congr 3; omega
theorem at_fe {x : St} {s i c : Nat} {g : Nat → Int32} (hs : sp s) (hI : InvG g) (h : RL x s g) (hi : i < ix (g 3)) (hc : c < 3) : ff_LE_at x (rf s 3) (nI i) (nI c) = some (g (57 + 3 * i + c), x) := by
  have hM := hI.1.2.2.2.1
  have hM2 := hM.2
  rw [(sp_rf hs).2.2.2.1, p_at (n := ix (g 3)) (w := 3) (h.2.1.2.2.2.1.trans hM.1) h.1.2.2.2.1.2 hi hc (by omega) (by omega) (by rw [(sp_le hs).2.2.2.1, (sp_ln hs).2.2.2.1]; omega), (sp_le hs).2.2.2.1, h.2.2.1.2.2.2.1 _ (by omega)]
  congr 3; omega
theorem at_fa {x : St} {s i c : Nat} {g : Nat → Int32} (hs : sp s) (hI : InvG g) (h : RL x s g) (hi : i < ix (g 4)) (hc : c < 3) : ff_LE_at x (rf s 4) (nI i) (nI c) = some (g (87 + 3 * i + c), x) := by
  have hM := hI.1.2.2.2.2.1
  have hM2 := hM.2
  rw [(sp_rf hs).2.2.2.2.1, p_at (n := ix (g 4)) (w := 3) (h.2.1.2.2.2.2.1.trans hM.1) h.1.2.2.2.2.2 hi hc (by omega) (by omega) (by rw [(sp_le hs).2.2.2.2, (sp_ln hs).2.2.2.2.1]; omega), (sp_le hs).2.2.2.2, h.2.2.1.2.2.2.2 _ (by omega)]
  congr 3; omega
theorem c_isFeastOf {x : St} {s f m d : Nat} {g : Nat → Int32} (hs : sp s) (hI : InvG g) (h : RL x s g) (hf : f < ix (g 3)) : ff_SH_isFeastOf x s (nI f) (nI m) (nI d) = some (if g (58 + 3 * f) = nI d ∧ g (59 + 3 * f) = nI m then 1 else 0, x) := by
  unfold ff_SH_isFeastOf
  have e1 := at_fe hs hI h hf (c := 1) (by decide)
  have e2 := at_fe hs hI h hf (c := 2) (by decide)
  rw [show 57 + 3 * f + 1 = 58 + 3 * f by omega] at e1
  rw [show 57 + 3 * f + 2 = 59 + 3 * f by omega] at e2
  rw [show (1 : Int32) = nI 1 from rfl, show (2 : Int32) = nI 2 from rfl, e1, bnd_some]
  by_cases c1 : g (58 + 3 * f) = nI d
  · rw [if_pos c1, e2, bnd_some]
    by_cases c2 : g (59 + 3 * f) = nI m
    · rw [if_pos c2, if_pos ⟨c1, c2⟩]
    · rw [if_neg c2, if_neg (fun q => c2 q.2)]
  · rw [if_neg c1, if_neg (fun q => c1 q.1)]
theorem c_fg51 {s q m d : Nat} {g : Nat → Int32} {w kk : Int32} (hs : sp s) (hI : InvG g) (K : St → Nat → Nat → Int32 → Int32 → Int32 → Int32 → Int32 → Option (Unit × St)) : ∀ (n N f v : Nat) (x : St), RL x s g → f + n = ix (g 3) → n < N → v ≤ 99 →
    ff_SH_fillGriefs_51 K N x s q (nI m) w kk (nI v) (nI d) (nI f) = ff_SH_fillGriefs_104 K x s q (nI m) w kk (nI (feU g w m d f n v)) (nI d) := by
  have hF := hI.1.2.2.2.1
  have hF2 := hF.2
  have hfe := hI.2.2.2.2.1
  intro n
  induction n with
  | zero =>
    intro N f v x h hf hN hv
    obtain ⟨N, rfl⟩ : ∃ K, N = K + 1 := ⟨N - 1, by omega⟩
    show (if gi x (rf s 3) 3 ≤ nI f then _ else _) = _
    rw [(sp_rf hs).2.2.2.1, h.2.1.2.2.2.1, hF.1, if_pos (nI_le (by omega) (by omega))]; rfl
  | succ n ih =>
    intro N f v x h hf hN hv
    obtain ⟨N, rfl⟩ : ∃ K, N = K + 1 := ⟨N - 1, by omega⟩
    have go : ∀ v', v' ≤ 99 → v' = fe1 g w m d f v → ff_SH_fillGriefs_51 K N x s q (nI m) w kk (nI v') (nI d) (nI f + 1) = ff_SH_fillGriefs_104 K x s q (nI m) w kk (nI (feU g w m d f (n + 1) v)) (nI d) := by
      intro v' h1 h2
      rw [nI_1, ih N (f + 1) v' x h (by omega) (by omega) h1, h2]; rfl
    show (if gi x (rf s 3) 3 ≤ nI f then _ else _) = _
    have hz : gi x (rf s 3) 3 = nI (ix (g 3)) := by rw [(sp_rf hs).2.2.2.1, h.2.1.2.2.2.1]; exact hF.1
    rw [hz, if_neg (nI_ge (by omega) (by omega))]
    by_cases c1 : nI f = w
    · rw [if_pos c1]
      exact go v hv (by simp [fe1, hit, c1])
    · rw [if_neg c1, c_isFeastOf hs hI h (by omega), bnd_some]
      by_cases c2 : g (58 + 3 * f) = nI d ∧ g (59 + 3 * f) = nI m
      · have hr := (hfe f (by omega)).1
        have e0 := at_fe hs hI h (i := f) (c := 0) (by omega) (by decide)
        rw [Nat.add_zero, hr.1] at e0
        rw [if_pos c2, if_neg (by decide), show (0 : Int32) = nI 0 from rfl, e0, bnd_some, c_feast x hr.2 hv, bnd_some]
        exact go _ (feastN_le hv) (by simp [fe1, hit, c1, c2])
      · rw [if_neg c2, if_pos rfl]
        refine go v hv ?_
        have : hit g w m d f = false := by unfold hit; simp only [decide_eq_false_iff_not]; exact fun q => c2 q.2
        simp [fe1, this]
theorem c_fg30 {s q m : Nat} {g : Nat → Int32} {w : Int32} (hs : sp s) (hI : InvG g) (hm : m < ix (g 0)) (hq : q < s ∨ (s + 11 ≤ q ∧ q < s + 18) ∨ s + 20 ≤ q) (hl : ln q = 100) : ∀ (n N d : Nat) (x : St), RL x s g → d + n = 100 → n < N → 1 ≤ d → (∀ e, e < d → gi x q e = nI (GR g w m e)) →
    ∃ y, ff_SH_fillGriefs_30 N x s q (nI m) w (nI (ix (g (7 + 3 * m)))) (nI (GR g w m (d - 1))) (nI d) = some ((), y) ∧ only q x y ∧ ∀ e, e < 100 → gi y q e = nI (GR g w m e) := by
  obtain ⟨k1, k2, -⟩ := hI.2.1 m hm
  have hF2 := hI.1.2.2.2.1.2
  intro n
  induction n with
  | zero =>
    intro N d x h hd hN h1 hG
    obtain ⟨N, rfl⟩ : ∃ K, N = K + 1 := ⟨N - 1, by omega⟩
    refine ⟨x, ?_, only_rf, fun e he => hG e (by omega)⟩
    show (if (100 : Int32) ≤ nI d then _ else _) = _
    rw [if_pos (show (100 : Int32) ≤ nI d from nI_le (a := 100) (by omega) (by omega))]
  | succ n ih =>
    intro N d x h hd hN h1 hG
    obtain ⟨N, rfl⟩ : ∃ K, N = K + 1 := ⟨N - 1, by omega⟩
    obtain ⟨d', rfl⟩ : ∃ k, d = k + 1 := ⟨d - 1, by omega⟩
    have hle := GR_le (g := g) (w := w) (m := m) k2.2 d'
    have hst := stepN_le (ix (g (7 + 3 * m))) (GR g w m d') (d' + 1)
    obtain ⟨y, g1, g2, g3⟩ := ih N (d' + 2) (si x q (d' + 1) (nI (GR g w m (d' + 1)))) (RL_only h (only_si _ _ _ _) hq) (by omega) (by omega) (by omega) (fun e he => by
      by_cases h : e = d' + 1
      · subst h; exact gi_si_s _ _ _ _
      · rw [gi_si_n _ _ _ _ (by omega)]; exact hG e (by omega))
    refine ⟨y, ?_, only_tr (only_si _ _ _ _) g2, g3⟩
    rw [← g1]
    show (if (100 : Int32) ≤ nI (d' + 1) then _ else _) = _
    rw [if_neg (show ¬ (100 : Int32) ≤ nI (d' + 1) from nI_ge (b := 100) (by omega) (by decide)), show d' + 1 - 1 = d' by omega, c_step x k1.2 (by omega) (by omega), bnd_some, show (0 : Int32) = nI 0 from rfl, c_fg51 hs hI _ (ix (g 3)) FU 0 _ x h (by omega) (by unfold FU; omega) (by omega)]
    unfold ff_SH_fillGriefs_104
    rw [hl, if_pos (ixb_nI (by omega) (by omega)), ix_nI (by omega), st_eq, nI_1]; rfl
theorem c_fillGriefs {x : St} {s q m : Nat} {g : Nat → Int32} {w : Int32} (hs : sp s) (hI : InvG g) (h : RL x s g) (hm : m < ix (g 0)) (hq : q < s ∨ (s + 11 ≤ q ∧ q < s + 18) ∨ s + 20 ≤ q) (hl : ln q = 100) : ∃ y, ff_SH_fillGriefs x s q (nI m) w = some ((), y) ∧ only q x y ∧ ∀ e, e < 100 → gi y q e = nI (GR g w m e) := by
  obtain ⟨k1, k2, -⟩ := hI.2.1 m hm
  obtain ⟨y, h1, h2, h3⟩ := c_fg30 (w := w) hs hI hm hq hl 99 FU 1 (si x q 0 (nI (GR g w m 0))) (RL_only h (only_si _ _ _ _) hq) (by omega) (by unfold FU; omega) (by omega) (fun e he => by
    have : e = 0 := by omega
    subst this
    exact gi_si_s _ _ _ _)
  refine ⟨y, ?_, only_tr (only_si _ _ _ _) h2, h3⟩
  rw [← h1]
  unfold ff_SH_fillGriefs
  have e0 := at_mo hs hI h hm (c := 0) (by decide)
  have e1 := at_mo hs hI h hm (c := 1) (by decide)
  rw [Nat.add_zero, k1.1] at e0
  rw [show 7 + 3 * m + 1 = 8 + 3 * m by omega, k2.1] at e1
  rw [show (0 : Int32) = nI 0 from rfl, show (1 : Int32) = nI 1 from rfl, e0, bnd_some, e1, bnd_some, hl, if_pos (ixb_nI (by omega) (by omega)), st_eq]; rfl
