/-! harm -/
theorem GR_skip {g : Nat → Int32} {f m : Nat} (hF : ix (g 3) ≤ 10) (hf : f < 10) (h : ¬ g (59 + 3 * f) = nI m) : ∀ d, GR g (nI f) m d = GR g (-1) m d
  | 0 => rfl
  | d + 1 => by
    show dayN g (nI f) m (GR g (nI f) m d) (d + 1) = dayN g (-1) m (GR g (-1) m d) (d + 1)
    rw [GR_skip hF hf h d]
    unfold dayN
    exact feU_skip rfl h (by omega) _ _ _ (by omega)
def hm1 (g : Nat → Int32) (f j : Nat) (v : Int32) : Int32 := if g (26 + 4 * j) = -1 then v else if OP g (nI f) j ≤ OP g (-1) j then (if OP g (-1) j ≤ OP g (nI f) j then v else v + (-1)) else v + 1
def hmU (g : Nat → Int32) (f : Nat) : Nat → Nat → Int32 → Int32
  | _, 0, v => v
  | j, n + 1, v => hmU g f (j + 1) n (hm1 g f j v)
theorem c_gw {x : St} {m : Nat} {c : Int32} {g : Nat → Int32} (hI : InvG g) (h : RL x 16 g) (hm : m < ix (g 0)) (hc : c = -1 ∨ (rg 5 c ∧ ix c < ix (g 0))) : ff_OU_griefsWithout x 9 16 (nI m) c = some (if c = -1 then none else some (if ix c = m then 10 else 28 + ix c), x) := by
  have hM2 := hI.1.1.2
  unfold ff_OU_griefsWithout
  by_cases q : c = nI m
  · have e : ix c = m := by rw [q, ix_nI (by omega)]
    rw [if_pos q, if_neg (by rw [q]; exact nI_ne_m1 (by omega)), if_pos e]; rfl
  · rw [if_neg q, c_griefsOf2 (Or.inl rfl) hI h hc, bnd_some]
    by_cases z : c = -1
    · rw [if_pos z, if_pos z]
    · have e : ¬ ix c = m := fun y => q (by rw [((hc.resolve_left z).1).1, y])
      rw [if_neg z, if_neg z, if_neg e]
theorem c_hmL {f m : Nat} {g : Nat → Int32} (hI : InvG g) (hf : f < ix (g 3)) (hm : g (59 + 3 * f) = nI m) (hm2 : m < ix (g 0)) {x : St} (h : RS x 16 g) (hr : ∀ e, e < 100 → gi x 10 e = nI (GR g (nI f) m e)) : ∀ (n N j : Nat) (v : Int32), j + n = ix (g 1) → n < N → ff_OU_harmOf_26 N x 9 16 (nI m) v (nI j) = some (hmU g f j n v, x) := by
  have hs : sp 16 := Or.inl rfl
  have hM2 := hI.1.1.2
  have hJ := hI.1.2.1
  have hJ2 := hJ.2
  have hF2 := hI.1.2.2.2.1.2
  have hz : gi x (rf 16 1) 3 = nI (ix (g 1)) := by rw [(sp_rf hs).2.1, h.1.2.1.2.1]; exact hJ.1
  have hrow : ∀ a, a < ix (g 0) → ln (if a = m then 10 else 28 + a) = 100 ∧ ∀ e, e < 100 → gi x (if a = m then 10 else 28 + a) e = nI (GR g (nI f) a e) := by
    intro a ha
    by_cases q : a = m
    · rw [if_pos q, q]
      exact ⟨by decide, hr⟩
    · rw [if_neg q]
      refine ⟨(sp_row hs (m := a) (by omega)).2, fun e he => ?_⟩
      rw [GR_skip hF2 (by omega) (by rw [hm]; exact nI_eqn (by omega) (by omega) (fun y => q y.symm))]
      exact h.2 a ha e he
  intro n
  induction n with
  | zero =>
    intro N j v hj hN
    obtain ⟨N, rfl⟩ : ∃ K, N = K + 1 := ⟨N - 1, by omega⟩
    show (if gi x (rf 16 1) 3 ≤ nI j then _ else _) = _
    rw [hz, if_pos (nI_le (by omega) (by omega))]; rfl
  | succ n ih =>
    intro N j v hj hN
    obtain ⟨N, rfl⟩ : ∃ K, N = K + 1 := ⟨N - 1, by omega⟩
    have go : ∀ v' : Int32, v' = hm1 g f j v → ff_OU_harmOf_26 N x 9 16 (nI m) v' (nI j + 1) = some (hmU g f j (n + 1) v, x) := by
      intro v' hv
      rw [nI_1, ih N (j + 1) v' (by omega) (by omega), hv]; rfl
    show (if gi x (rf 16 1) 3 ≤ nI j then _ else _) = _
    rw [hz, if_neg (nI_ge (by omega) (by omega)), c_boiledOn hs hI h.1 (by omega), bnd_some]
    by_cases q : g (26 + 4 * j) = -1
    · rw [if_pos q]
      exact go v (by unfold hm1; rw [if_pos q])
    · obtain ⟨hl, hB⟩ := hI.2.2.1 j (by omega)
      obtain ⟨b0, b1, b2, b3⟩ := hB.resolve_left (fun z => q z.1)
      have b02 := b0.2
      have hc : g (28 + 4 * j) = -1 ∨ (rg 5 (g (28 + 4 * j)) ∧ ix (g (28 + 4 * j)) < ix (g 0)) := b3.imp id (fun z => ⟨z.1, z.2.1⟩)
      have na : ¬ g (27 + 4 * j) = -1 := by rw [b1.1]; exact nI_ne_m1 (by omega)
      have w1 := c_gw hI h.1 hm2 (c := g (27 + 4 * j)) (Or.inr ⟨b1, b2⟩)
      rw [if_neg na] at w1
      have w2 := c_gw hI h.1 hm2 hc
      have e0 := at_jo hs hI h.1 (i := j) (by omega)
      have hst : stF (SG g (nI f) (ix (g (27 + 4 * j))) (g (28 + 4 * j))) x (if ix (g (27 + 4 * j)) = m then 10 else 28 + ix (g (27 + 4 * j))) (if g (28 + 4 * j) = -1 then none else some (if ix (g (28 + 4 * j)) = m then 10 else 28 + ix (g (28 + 4 * j)))) := by
        refine ⟨(hrow _ b2).1, fun e _ => SG_le hI b2 hc e, ?_⟩
        by_cases z : g (28 + 4 * j) = -1
        · refine Or.inl ⟨if_pos z, fun e he => ?_⟩
          unfold SG
          rw [if_pos z]
          exact (hrow _ b2).2 e he
        · obtain ⟨c1, c2⟩ := hc.resolve_left z
          refine Or.inr ⟨_, GR g (nI f) (ix (g (27 + 4 * j))), GR g (nI f) (ix (g (28 + 4 * j))), if_neg z, (hrow _ c2).1, fun e he => ⟨(hrow _ b2).2 e he, (hrow _ c2).2 e he, GR_le (hI.2.1 _ b2).2.1.2 e, GR_le (hI.2.1 _ c2).2.1.2 e, ?_⟩⟩
          unfold SG
          rw [if_neg z]
      have e2 := c_fw (d := ix (g (26 + 4 * j))) (en := 99) (load := ix (g (25 + 4 * j))) hst hl.2 (by omega) (by omega)
      rw [← hl.1, ← b0.1, show fw (SG g (nI f) (ix (g (27 + 4 * j))) (g (28 + 4 * j))) (ix (g (25 + 4 * j))) (ix (g (26 + 4 * j))) (99 + 1 - ix (g (26 + 4 * j))) = OP g (nI f) j from rfl] at e2
      have o1 := OP_le g (-1) j b02
      have o2 := OP_le g (nI f) j b02
      have eo : OPI g j = nI (OP g (-1) j) := by unfold OPI; rw [if_neg q]
      rw [if_neg q, c_firstBoiler hs hI h.1 (by omega), bnd_some, w1, bnd_some, c_secondBoiler hs hI h.1 (by omega), bnd_some, w2, bnd_some, show (0 : Int32) = nI 0 from rfl, e0, bnd_some, show (99 : Int32) = nI 99 from rfl, e2, bnd_some, c_openingOf hs hI h (by omega), bnd_some, eo]
      show (if nI (OP g (nI f) j) ≤ _ then _ else _) = _
      by_cases c1 : OP g (nI f) j ≤ OP g (-1) j
      · rw [if_pos (nI_le c1 (by omega))]
        by_cases c2 : OP g (-1) j ≤ OP g (nI f) j
        · rw [if_pos (nI_le c2 (by omega))]
          exact go _ (by unfold hm1; rw [if_neg q, if_pos c1, if_pos c2])
        · rw [if_neg (nI_ge (by omega) (by omega))]
          exact go _ (by unfold hm1; rw [if_neg q, if_pos c1, if_neg c2])
      · rw [if_neg (nI_ge (by omega) (by omega))]
        exact go _ (by unfold hm1; rw [if_neg q, if_neg c1])
theorem c_harmOf {x : St} {f : Nat} {g : Nat → Int32} (hI : InvG g) (h : RS x 16 g) (hf : f < ix (g 3)) : ∃ y, ff_OU_harmOf x 9 16 (nI f) = some (hmU g f 0 (ix (g 1)) 0, y) ∧ only 10 x y := by
  have hs : sp 16 := Or.inl rfl
  have hJ2 := hI.1.2.1.2
  have hM2 := hI.1.1.2
  obtain ⟨-, -, -, r1, r2⟩ := hI.2.2.2.2.1 f hf
  obtain ⟨y, y1, y2, y3⟩ := c_fillGriefs (q := 10) (w := nI f) hs hI h.1 r2 (by omega) (by decide)
  refine ⟨y, ?_, y2⟩
  have e0 := at_fe hs hI h.1 hf (c := 2) (by decide)
  rw [show 57 + 3 * f + 2 = 59 + 3 * f by omega, r1.1] at e0
  unfold ff_OU_harmOf
  rw [show (2 : Int32) = nI 2 from rfl, e0, bnd_some, show rf 9 0 = 10 from rfl, y1, bnd_some]
  exact c_hmL hI hf r1.1 r2 (RS_only hM2 h y2 (by omega)) y3 (ix (g 1)) FU 0 0 (by omega) (by unfold FU; omega)
theorem m_hm77 {f b : Nat} {g : Nat → Int32} (hI : InvG g) {x : St} (hV : MV x b g) (hG : GF g (nI f) x) (ho : ∀ j, j < ix (g 1) → gi x 112 j = OPI g j) : ∀ (n N j : Nat) (v : Int32), j + n = ix (g 1) → n < N → ff_MO_harm_77 N x 100 v (nI j) = some (hmU g f j n v, x) := by
  have hJ := hI.1.2.1
  have hJ2 := hJ.2
  intro n
  induction n with
  | zero =>
    intro N j v hj hN
    obtain ⟨N, rfl⟩ : ∃ K, N = K + 1 := ⟨N - 1, by omega⟩
    show bnd (ff_MO_get x 100 (nI 1)) _ = _
    rw [m_getN hV (by decide) hJ, bnd_some, if_pos (nI_le (by omega) (by omega))]; rfl
  | succ n ih =>
    intro N j v hj hN
    obtain ⟨N, rfl⟩ : ∃ K, N = K + 1 := ⟨N - 1, by omega⟩
    have go : ∀ v' : Int32, v' = hm1 g f j v → ff_MO_harm_77 N x 100 v' (nI j + 1) = some (hmU g f j (n + 1) v, x) := by
      intro v' hv
      rw [nI_1, ih N (j + 1) v' (by omega) (by omega), hv]; rfl
    show bnd (ff_MO_get x 100 (nI 1)) _ = _
    rw [m_getN hV (by decide) hJ, bnd_some, if_neg (nI_ge (by omega) (by omega)), m_isBoiled hV (by omega), bnd_some]
    have hb : ixb (nI j) 6 = true := ixb_nI (by omega) (by omega)
    by_cases q : g (26 + 4 * j) = -1
    · have eo : OPI g j = -1 := by unfold OPI; rw [if_pos q]
      rw [if_pos q, if_pos rfl]
      unfold ff_MO_harm_103
      rw [show rf 100 21 = 112 from rfl, show ln 112 = 6 from rfl, if_pos hb, ix_nI (by omega), ho j (by omega), eo, if_pos (by decide), if_pos hb, if_pos (by decide)]
      exact go _ (by unfold hm1; rw [if_pos q, Int32.add_zero])
    · obtain ⟨hl, hB⟩ := hI.2.2.1 j (by omega)
      obtain ⟨b0, b1, b2, b3⟩ := hB.resolve_left (fun z => q z.1)
      have o1 := OP_le g (-1) j b0.2
      have o2 := OP_le g (nI f) j b0.2
      have eo : OPI g j = nI (OP g (-1) j) := by unfold OPI; rw [if_neg q]
      rw [if_neg q, if_neg (by decide), m_opensBy hI hV hG (by omega) q, bnd_some]
      unfold ff_MO_harm_103
      rw [show rf 100 21 = 112 from rfl, show ln 112 = 6 from rfl, if_pos hb, ix_nI (by omega), ho j (by omega), eo]
      by_cases c1 : OP g (nI f) j ≤ OP g (-1) j
      · rw [if_pos (nI_le c1 (by omega)), if_pos hb]
        by_cases c2 : OP g (-1) j ≤ OP g (nI f) j
        · rw [if_pos (nI_le c2 (by omega))]
          exact go _ (by unfold hm1; rw [if_neg q, if_pos c1, if_pos c2, Int32.add_zero])
        · rw [if_neg (nI_ge (by omega) (by omega))]
          exact go _ (by unfold hm1; rw [if_neg q, if_pos c1, if_neg c2])
      · rw [if_neg (nI_ge (by omega) (by omega))]
        exact go _ (by unfold hm1; rw [if_neg q, if_neg c1])
theorem m_hm30 {b : Nat} {f : Nat} {g : Nat → Int32} (hI : InvG g) : ∀ (n N j : Nat) (x : St), j + n = ix (g 1) → n < N → MV x b g → GF g (-1) x → (∀ i, i < j → gi x 112 i = OPI g i) → ∃ y, ff_MO_harm_30 N x 100 (nI f) (nI j) = ff_MO_harm_68 y 100 (nI f) ∧ only 112 x y ∧ ∀ i, i < ix (g 1) → gi y 112 i = OPI g i := by
  have hJ := hI.1.2.1
  have hJ2 := hJ.2
  intro n
  induction n with
  | zero =>
    intro N j x hj hN hV hG ho
    obtain ⟨N, rfl⟩ : ∃ K, N = K + 1 := ⟨N - 1, by omega⟩
    refine ⟨x, ?_, only_rf, fun i hi => ho i (by omega)⟩
    show bnd (ff_MO_get x 100 (nI 1)) _ = _
    rw [m_getN hV (by decide) hJ, bnd_some, if_pos (nI_le (by omega) (by omega))]
  | succ n ih =>
    intro N j x hj hN hV hG ho
    obtain ⟨N, rfl⟩ : ∃ K, N = K + 1 := ⟨N - 1, by omega⟩
    have hon := only_si 112 j (OPI g j) x
    obtain ⟨y, g1, g2, g3⟩ := ih N (j + 1) (si x 112 j (OPI g j)) (by omega) (by omega) (MV_only hV hon (by decide) (by decide)) (GF_only hG hon (by decide)) (fun i hi => by
      by_cases e : i = j
      · subst e; exact gi_si_s _ _ _ _
      · rw [gi_si_n _ _ _ _ (by omega)]; exact ho i (by omega))
    refine ⟨y, ?_, only_tr hon g2, g3⟩
    rw [← g1]
    have hb : ixb (nI j) 6 = true := ixb_nI (by omega) (by omega)
    show bnd (ff_MO_get x 100 (nI 1)) _ = _
    rw [m_getN hV (by decide) hJ, bnd_some, if_neg (nI_ge (by omega) (by omega)), m_isBoiled hV (by omega), bnd_some, show rf 100 21 = 112 from rfl, show ln 112 = 6 from rfl]
    by_cases q : g (26 + 4 * j) = -1
    · have eo : OPI g j = -1 := by unfold OPI; rw [if_pos q]
      rw [if_pos q, if_pos rfl, if_pos hb, st_eq, ix_nI (by omega), eo, nI_1]
    · have eo : OPI g j = nI (OP g (-1) j) := by unfold OPI; rw [if_neg q]
      rw [if_neg q, if_neg (by decide), m_opensBy hI hV hG (by omega) q, bnd_some, if_pos hb, st_eq, ix_nI (by omega), eo, nI_1]
