theorem m_getN {x : St} {b k n : Nat} {g : Nat → Int32} (h : MV x b g) (hk : k < 315) (hr : rg n (g k)) : ff_MO_get x 100 (nI k) = some (nI (ix (g k)), x) := by
  rw [← hr.1]; exact m_get h hk
theorem lin (a b j : Nat) : nI a + nI b * nI j = nI (a + b * j) := by rw [pk_mul, nI_add]
def only (q : Nat) (x y : St) : Prop := (∀ a k, a ≠ q → gi y a k = gi x a k) ∧ ∀ a k, gl y a k = gl x a k
theorem only_rf {q : Nat} {x : St} : only q x x := ⟨fun _ _ _ => rfl, fun _ _ => rfl⟩
theorem only_tr {q : Nat} {x y z : St} (h1 : only q x y) (h2 : only q y z) : only q x z := ⟨fun a k h => (h2.1 a k h).trans (h1.1 a k h), fun a k => (h2.2 a k).trans (h1.2 a k)⟩
theorem only_si (q k : Nat) (v : Int32) (x : St) : only q x (si x q k v) := ⟨fun a j h => gi_si_n _ _ _ _ (fun e => h e.1), fun _ _ => rfl⟩
theorem MV_only {q b : Nat} {x y : St} {g : Nat → Int32} (h : MV x b g) (ho : only q x y) (h1 : q ≠ 100) (h2 : q ≠ 101) : MV y b g := by
  obtain ⟨a1, a2, a3⟩ := h
  exact ⟨by rw [ho.1 _ _ (fun e => h1 e.symm)]; exact a1, a2, fun k hk => by rw [ho.1 _ _ (fun e => h2 e.symm)]; exact a3 k hk⟩
theorem m_fg39 {b m : Nat} {g : Nat → Int32} {w : Int32} (hI : InvG g) (hm : m < ix (g 0)) (K : St → Nat → Int32 → Option (Unit × St)) : ∀ (n N d : Nat) (x : St), d + n = 100 → n < N → 1 ≤ d → MV x b g → gi x 100 13 = w → (∀ e, e < d → gi x 105 (100 * m + e) = nI (GR g w m e)) →
    ∃ y, ff_MO_findGriefs_39 K N x 100 (nI m) (nI d) = K y 100 (nI (m + 1)) ∧ only 105 x y ∧ (∀ e, e < 100 → gi y 105 (100 * m + e) = nI (GR g w m e)) ∧ ∀ j, j < 100 * m → gi y 105 j = gi x 105 j := by
  obtain ⟨⟨hM, -, -, hF, -⟩, hmo, -, -, hfe, -⟩ := hI
  have hM2 := hM.2
  obtain ⟨k1, k2, -⟩ := hmo m hm
  intro n
  induction n with
  | zero =>
    intro N d x hd hN h1 hV hw hG
    obtain ⟨N, rfl⟩ : ∃ K, N = K + 1 := ⟨N - 1, by omega⟩
    refine ⟨x, ?_, only_rf, fun e he => hG e (by omega), fun _ _ => rfl⟩
    show (if (99 : Int32) < nI d then K x 100 (nI m + 1) else _) = _
    rw [if_pos (show (99 : Int32) < nI d from nI_lt (a := 99) (by omega) (by omega)), nI_1]
  | succ n ih =>
    intro N d x hd hN h1 hV hw hG
    obtain ⟨N, rfl⟩ : ∃ K, N = K + 1 := ⟨N - 1, by omega⟩
    obtain ⟨d', rfl⟩ : ∃ k, d = k + 1 := ⟨d - 1, by omega⟩
    have hle := GR_le (g := g) (w := w) (m := m) k2.2 d'
    have hle2 := GR_le (g := g) (w := w) (m := m) k2.2 (d' + 1)
    obtain ⟨y, g1, g2, g3, g4⟩ := ih N (d' + 2) (si x 105 (100 * m + (d' + 1)) (nI (GR g w m (d' + 1)))) (by omega) (by omega) (by omega) (MV_only hV (only_si _ _ _ _) (by decide) (by decide)) hw (fun e he => by
      by_cases h : e = d' + 1
      · subst h; exact gi_si_s _ _ _ _
      · rw [gi_si_n _ _ _ _ (by omega)]; exact hG e (by omega))
    refine ⟨y, ?_, only_tr (only_si _ _ _ _) g2, g3, fun j hj => by rw [g4 j hj, gi_si_n _ _ _ _ (by omega)]⟩
    rw [← g1]
    show (if (99 : Int32) < nI (d' + 1) then _ else _) = _
    rw [if_neg (show ¬ (99 : Int32) < nI (d' + 1) from nI_nlt (b := d' + 1) (a := 99) (by omega) (by decide))]
    rw [show (100 * nI m + nI (d' + 1) : Int32) = nI (100 * m + (d' + 1)) from by rw [show (100 : Int32) = nI 100 from rfl, pk_mul, nI_add], show rf 100 14 = 105 from rfl, show ln 105 = 600 from rfl]
    rw [show nI (100 * m + (d' + 1)) - 1 = nI (100 * m + d') from nI_pred _, if_pos (ixb_nI (by omega) (by omega)), ix_nI (by omega), hG d' (by omega), m_onDay hV hF (fun i hi => (hfe i hi).1) k1 hw (by omega) (by omega) hle, bnd_some, if_pos (ixb_nI (by omega) (by omega)), ix_nI (by omega)]
    rw [st_eq, nI_1]; rfl
def GF (g : Nat → Int32) (w : Int32) (y : St) : Prop := ∀ m, m < ix (g 0) → ∀ e, e < 100 → gi y 105 (100 * m + e) = nI (GR g w m e)
theorem m_fg7 {b : Nat} {g : Nat → Int32} {w : Int32} (hI : InvG g) : ∀ (n N m : Nat) (x : St), m + n = ix (g 0) → n < N → MV x b g → gi x 100 13 = w → (∀ i, i < m → ∀ e, e < 100 → gi x 105 (100 * i + e) = nI (GR g w i e)) →
    ∃ y, ff_MO_findGriefs_7 N x 100 (nI m) = some ((), si y 100 13 (-1)) ∧ only 105 x y ∧ GF g w y := by
  have hI2 := hI
  obtain ⟨⟨hM, -, -, hF, -⟩, hmo, -, -, hfe, -⟩ := hI
  have hM2 := hM.2
  intro n
  induction n with
  | zero =>
    intro N m x hm hN hV hw hG
    obtain ⟨N, rfl⟩ : ∃ K, N = K + 1 := ⟨N - 1, by omega⟩
    refine ⟨x, ?_, only_rf, fun i hi e he => hG i (by omega) e he⟩
    show bnd (ff_MO_get x 100 (nI 0)) _ = _
    rw [m_get hV (by decide), bnd_some, hM.1, if_pos (nI_le (by omega) (by omega))]; rfl
  | succ n ih =>
    intro N m x hm hN hV hw hG
    obtain ⟨N, rfl⟩ : ∃ K, N = K + 1 := ⟨N - 1, by omega⟩
    obtain ⟨k1, k2, -⟩ := hmo m (by omega)
    have hV2 : MV (si x 105 (100 * m) (nI (GR g w m 0))) b g := MV_only hV (only_si _ _ _ _) (by decide) (by decide)
    obtain ⟨y, g1, g2, g3, g4⟩ := m_fg39 (m := m) hI2 (by omega) (ff_MO_findGriefs_7 N) 99 FU 1 (si x 105 (100 * m) (nI (GR g w m 0))) (by omega) (by unfold FU; omega) (by omega) hV2 hw (fun e he => by
      have : e = 0 := by omega
      subst this
      exact gi_si_s _ _ _ _)
    have hV3 := MV_only hV2 g2 (by decide) (by decide)
    obtain ⟨z, z1, z2, z3⟩ := ih N (m + 1) y (by omega) (by omega) hV3 (by rw [g2.1 _ _ (by decide)]; exact hw) (fun i hi e he => by
      by_cases h : i = m
      · subst h; exact g3 e he
      · rw [g4 _ (by omega), gi_si_n _ _ _ _ (by omega)]; exact hG i (by omega) e he)
    refine ⟨z, ?_, only_tr (only_tr (only_si _ _ _ _) g2) z2, z3⟩
    rw [← z1, ← g1]
    show bnd (ff_MO_get x 100 (nI 0)) _ = _
    rw [m_get hV (by decide), bnd_some, hM.1, if_neg (nI_ge (by omega) (by omega))]
    rw [show (7 + 3 * nI m + 1 : Int32) = nI (8 + 3 * m) from by rw [show (7 + 3 * nI m : Int32) = nI (7 + 3 * m) from lin 7 3 m, nI_1]; congr 1; omega, m_get hV (by omega), bnd_some, show (100 * nI m : Int32) = nI (100 * m) from pk_mul 100 m, show rf 100 14 = 105 from rfl, show ln 105 = 600 from rfl, if_pos (ixb_nI (by omega) (by omega)), ix_nI (by omega), st_eq, k2.1]; rfl
theorem m_findGriefs {x : St} {b : Nat} {g : Nat → Int32} (hI : InvG g) (hV : MV x b g) (w : Int32) : ∃ y, ff_MO_findGriefs x 100 w = some ((), y) ∧ GF g w y ∧ MV y b g ∧ gi y 100 13 = -1 ∧ (∀ a k, a ≠ 105 → ¬ (a = 100 ∧ k = 13) → gi y a k = gi x a k) ∧ ∀ a k, gl y a k = gl x a k := by
  have hM := hI.1.1.2
  have hV2 : MV (si x 100 13 w) b g := ⟨hV.1, hV.2.1, fun k hk => hV.2.2 k hk⟩
  obtain ⟨y, h1, h2, h3⟩ := m_fg7 (b := b) hI (ix (g 0)) FU 0 (si x 100 13 w) (by omega) (by unfold FU; omega) hV2 (gi_si_s _ _ _ _) (fun i hi => absurd hi (Nat.not_lt_zero i))
  have hV3 := MV_only hV2 h2 (by decide) (by decide)
  refine ⟨si y 100 13 (-1), h1, fun m hm e he => h3 m hm e he, ⟨hV3.1, hV3.2.1, fun k hk => hV3.2.2 k hk⟩, gi_si_s _ _ _ _, fun a k ha hk => ?_, fun a k => h2.2 a k⟩
  rw [gi_si_n _ _ _ _ hk, h2.1 a k ha, gi_si_n _ _ _ _ hk]
/-- the strength of one, or of two, on a day -/
def SG (g : Nat → Int32) (w : Int32) (a : Nat) (b : Int32) (d : Nat) : Nat := if b = -1 then GR g w a d else (GR g w a d + GR g w (ix b) d) / 2
theorem m_strength {x : St} {a d : Nat} {g : Nat → Int32} {w c : Int32} (hI : InvG g) (hG : GF g w x) (ha : a < ix (g 0)) (hc : c = -1 ∨ (rg 5 c ∧ ix c < ix (g 0))) (hd : d < 100) : ff_MO_strength x 100 (nI a) c (nI d) = some (nI (SG g w a c d), x) := by
  obtain ⟨⟨hM, -⟩, hmo, -⟩ := hI
  have hM2 := hM.2
  have l1 := GR_le (g := g) (w := w) (hmo a ha).2.1.2 d
  have e1 : ∀ m : Nat, (100 * nI m + nI d : Int32) = nI (100 * m + d) := fun m => by rw [show (100 : Int32) = nI 100 from rfl, pk_mul, nI_add]
  unfold ff_MO_strength SG
  rw [e1, show rf 100 14 = 105 from rfl, show ln 105 = 600 from rfl]
  by_cases h : c = -1
  · rw [if_pos h, if_pos h, if_pos (ixb_nI (by omega) (by omega)), ix_nI (by omega), hG a ha d hd]
  · obtain ⟨c1, c2⟩ := hc.resolve_left h
    have l2 := GR_le (g := g) (w := w) (hmo (ix c) c2).2.1.2 d
    rw [if_neg h, if_neg h, if_pos (ixb_nI (by omega) (by omega)), c1.1, e1, if_pos (ixb_nI (by omega) (by omega)), ix_nI (by omega), ix_nI (by omega), hG a ha d hd, hG _ c2 d hd, nI_add, half_nI (by omega), ix_nI (by omega)]
/-- the first of n days from d on, on which f is less than the load; else the day behind them -/
def fw (f : Nat → Nat) (load : Nat) : Nat → Nat → Nat
  | d, 0 => d
  | d, n + 1 => if load ≤ f d then fw f load (d + 1) n else d
theorem fw_le (f : Nat → Nat) (load : Nat) : ∀ (n d : Nat), fw f load d n ≤ d + n
  | 0, d => Nat.le_refl d
  | n + 1, d => by
    have := fw_le f load n (d + 1)
    unfold fw
    split <;> omega
theorem fw_ge (f : Nat → Nat) (load : Nat) : ∀ (n d : Nat), d ≤ fw f load d n
  | 0, d => Nat.le_refl d
  | n + 1, d => by
    have := fw_ge f load n (d + 1)
    unfold fw
    split <;> omega
/-- when a boiled joint opens -/
def OP (g : Nat → Int32) (w : Int32) (j : Nat) : Nat := fw (SG g w (ix (g (27 + 4 * j))) (g (28 + 4 * j))) (ix (g (25 + 4 * j))) (ix (g (26 + 4 * j))) (100 - ix (g (26 + 4 * j)))
theorem SG_le {g : Nat → Int32} {w c : Int32} {a : Nat} (hI : InvG g) (ha : a < ix (g 0)) (hc : c = -1 ∨ (rg 5 c ∧ ix c < ix (g 0))) (d : Nat) : SG g w a c d ≤ 99 := by
  obtain ⟨-, hmo, -⟩ := hI
  have l1 := GR_le (g := g) (w := w) (hmo a ha).2.1.2 d
  unfold SG
  by_cases h : c = -1
  · rw [if_pos h]; exact l1
  · have l2 := GR_le (g := g) (w := w) (hmo (ix c) (hc.resolve_left h).2).2.1.2 d
    rw [if_neg h]; omega
theorem m_opL {x : St} {b j : Nat} {g : Nat → Int32} {w : Int32} (hI : InvG g) (hV : MV x b g) (hG : GF g w x) (hj : j < ix (g 1)) (hb : ¬ g (26 + 4 * j) = -1) : ∀ (n N d : Nat), d + n = 100 → n < N → ff_MO_opensBy_15 N x 100 (nI (25 + 4 * j)) (nI d) = some (nI (fw (SG g w (ix (g (27 + 4 * j))) (g (28 + 4 * j))) (ix (g (25 + 4 * j))) d n), x) := by
  have hJ := hI.1.2.1.2
  obtain ⟨hl, hB⟩ := hI.2.2.1 j hj
  obtain ⟨-, b1, b2, b3⟩ := hB.resolve_left (fun q => hb q.1)
  have hc : g (28 + 4 * j) = -1 ∨ (rg 5 (g (28 + 4 * j)) ∧ ix (g (28 + 4 * j)) < ix (g 0)) := b3.imp id (fun q => ⟨q.1, q.2.1⟩)
  intro n
  induction n with
  | zero =>
    intro N d hd hN
    obtain ⟨N, rfl⟩ : ∃ K, N = K + 1 := ⟨N - 1, by omega⟩
    show (if (99 : Int32) < nI d then _ else _) = _
    have : d = 100 := by omega
    subst this
    rw [if_pos (by decide)]; rfl
  | succ n ih =>
    intro N d hd hN
    obtain ⟨N, rfl⟩ : ∃ K, N = K + 1 := ⟨N - 1, by omega⟩
    show (if (99 : Int32) < nI d then _ else _) = _
    have hs := SG_le (w := w) hI b2 hc d
    rw [if_neg (show ¬ (99 : Int32) < nI d from nI_nlt (b := d) (a := 99) (by omega) (by decide)), show (nI (25 + 4 * j) + 2 : Int32) = nI (27 + 4 * j) from by rw [show (2 : Int32) = nI 2 from rfl, nI_add]; congr 1; omega, m_getN hV (by omega) b1, bnd_some, show (nI (25 + 4 * j) + 3 : Int32) = nI (28 + 4 * j) from by rw [show (3 : Int32) = nI 3 from rfl, nI_add]; congr 1; omega, m_get hV (by omega), bnd_some, m_strength hI hG b2 hc (by omega), bnd_some, m_getN hV (by omega) hl, bnd_some]
    unfold fw
    have hl2 := hl.2
    by_cases h : ix (g (25 + 4 * j)) ≤ SG g w (ix (g (27 + 4 * j))) (g (28 + 4 * j)) d
    · rw [if_pos (nI_le h (by omega)), nI_1, ih N (d + 1) (by omega) (by omega), if_pos h]
    · rw [if_neg (nI_ge (by omega) (by omega)), if_neg h]
theorem m_opensBy {x : St} {b j : Nat} {g : Nat → Int32} {w : Int32} (hI : InvG g) (hV : MV x b g) (hG : GF g w x) (hj : j < ix (g 1)) (hb : ¬ g (26 + 4 * j) = -1) : ff_MO_opensBy x 100 (nI j) = some (nI (OP g w j), x) := by
  have hJ := hI.1.2.1.2
  obtain ⟨hl, hB⟩ := hI.2.2.1 j hj
  obtain ⟨b0, b1, b2, b3⟩ := hB.resolve_left (fun q => hb q.1)
  have b02 := b0.2
  unfold ff_MO_opensBy
  rw [show (25 + 4 * nI j : Int32) = nI (25 + 4 * j) from lin 25 4 j, show (nI (25 + 4 * j) + 1 : Int32) = nI (26 + 4 * j) from by rw [nI_1]; congr 1; omega, m_getN hV (by omega) b0, bnd_some]
  have := m_opL hI hV hG hj hb (100 - ix (g (26 + 4 * j))) FU (ix (g (26 + 4 * j))) (by omega) (by unfold FU; omega)
  rw [this]; rfl
theorem m_isBoiled {x : St} {b j : Nat} {g : Nat → Int32} (hV : MV x b g) (hj : j < 6) : ff_MO_isBoiled x 100 (nI j) = some (if g (26 + 4 * j) = -1 then 0 else 1, x) := by
  unfold ff_MO_isBoiled
  rw [show (25 + 4 * nI j : Int32) = nI (25 + 4 * j) from lin 25 4 j, show (nI (25 + 4 * j) + 1 : Int32) = nI (26 + 4 * j) from by rw [nI_1]; congr 1; omega, m_get hV (by omega), bnd_some]
  by_cases h : g (26 + 4 * j) = -1
  · rw [if_pos h, if_pos h]
  · rw [if_neg h, if_neg h]
