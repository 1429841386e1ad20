theorem spi {i : Nat} (hi : i < 2) : sp (36 + 20 * i) := by
  have : i = 0 ∨ i = 1 := by omega
  rcases this with rfl | rfl
  · exact Or.inr (Or.inl rfl)
  · exact Or.inr (Or.inr (Or.inl rfl))
theorem rf1 {i : Nat} (hi : i < 2) : rf 1 i = 36 + 20 * i := by
  have : i = 0 ∨ i = 1 := by omega
  rcases this with rfl | rfl <;> rfl
theorem s_image {c m : St} (h : Rel c m) (v : Int32) : Sim (ff_GG_image c 0 v) (ff_MO_image m 100 v) := by
  obtain ⟨⟨a1, a2, a3⟩, ⟨b1, b2⟩, ⟨d1, d2⟩, ⟨e1, e2, e3⟩, f, ⟨g1, g2, g3⟩, ⟨hI, hR⟩, j⟩ := id h
  unfold ff_GG_image ff_MO_image
  rw [p_within, bnd_some, p_in, bnd_some]
  by_cases q : wn v 0 1 = 0
  · rw [if_pos q, if_pos q]; exact Sim_bad h
  · obtain ⟨i, -, i2, rfl⟩ := wn_nat (a := 0) (b := 1) (by decide) (by decide) q
    have hi : i < 2 := by omega
    have hsp := spi hi
    have hl : LC c (36 + 20 * i) := by
      have : i = 0 ∨ i = 1 := by omega
      rcases this with rfl | rfl
      · exact g1
      · exact g2
    obtain ⟨y, y1, y2, y3, y4⟩ := c_copy (d := 36 + 20 * i) (s := 16) hsp (Or.inl rfl) (by omega) hI hR.1 hl
    obtain ⟨z, z1, z2, z3⟩ := m_copy (x := m) (src := 0) (dst := 315 * (1 + i)) (by omega) (by omega) (by omega)
    have hb : ixb (nI i) 2 = true := ixb_nI hi (by omega)
    have oC : ∀ a k, ¬ (36 + 20 * i ≤ a ∧ a < 36 + 20 * i + 20) → ¬ (a = 2 ∧ k = i) → gi (si y 2 i (vp_nar .boolean 1)) a k = gi c a k := fun a k ha hb => by rw [gi_si_n _ _ _ _ hb, y2.1 a k ha]
    have oM : ∀ a k, ¬ (a = 101 ∧ 315 * (1 + i) ≤ k ∧ k < 315 * (1 + i) + 315) → ¬ (a = 102 ∧ k = i) → gi (si z 102 i (vp_nar .boolean 1)) a k = gi m a k := fun a k ha hb => by rw [gi_si_n _ _ _ _ hb, z2.1 a k ha]
    refine ⟨1, si y 2 i (vp_nar .boolean 1), si z 102 i (vp_nar .boolean 1), ?_, ?_, ?_⟩
    · rw [if_neg q, show rf 0 1 = 1 from rfl, show rf 0 2 = 2 from rfl, show rf 0 0 = 16 from rfl, show ln 1 = 2 from rfl, show ln 2 = 2 from rfl, if_pos hb, ix_nI (by omega), rf1 hi, y1, bnd_some, if_pos hb, st_eq]
    · have z1' : ff_MO_copy m 100 0 (nI (315 * (1 + i))) = some ((), z) := z1
      rw [if_neg q, show (315 * (1 + nI i) : Int32) = nI (315 * (1 + i)) from by rw [show (1 : Int32) = nI 1 from rfl, nI_add, show (315 : Int32) = nI 315 from rfl, pk_mul], z1', bnd_some, show rf 100 2 = 102 from rfl, show ln 102 = 2 from rfl, if_pos hb, st_eq, ix_nI (by omega)]
    · have t7 : gi (si z 102 i (vp_nar .boolean 1)) 100 7 = gi m 100 7 := oM _ _ (by omega) (by omega)
      have rz : reg (si z 102 i (vp_nar .boolean 1)) 0 = reg z 0 := rfl
      have r0 : ∀ k, k < 315 → reg (si z 102 i (vp_nar .boolean 1)) 0 k = reg m 0 k := fun k hk => oM _ _ (by omega) (by omega)
      have gy : ∀ a k, a ≠ 2 → gi (si y 2 i (vp_nar .boolean 1)) a k = gi y a k := fun a k ha => gi_si_n _ _ _ _ (fun e => ha e.1)
      have lcy : ∀ s, LC y s → 3 ≤ s → LC (si y 2 i (vp_nar .boolean 1)) s := fun s hs h3 => LC_eq hs (fun a k hh _ _ => gy a k (by omega))
      refine ⟨⟨?_, ?_, ?_⟩, ⟨?_, ?_⟩, ⟨?_, ?_⟩, ⟨?_, ?_, ?_⟩, ?_, ⟨?_, ?_, ?_⟩, ⟨?_, ?_⟩, ?_⟩
      · rw [oC _ _ (by omega) (by omega), oM _ _ (by omega) (by omega)]; exact a1
      · rw [oC _ _ (by omega) (by omega), oM _ _ (by omega) (by omega)]; exact a2
      · rw [oC _ _ (by omega) (by omega), oM _ _ (by omega) (by omega)]; exact a3
      · show gl y 0 6 = gl z 100 4
        rw [y2.2, z2.2]; exact b1
      · show gl y 0 7 = gl z 100 5
        rw [y2.2, z2.2]; exact b2
      · rw [oM _ _ (by omega) (by omega)]; exact d1
      · rw [oM _ _ (by omega) (by omega)]; exact d2
      · rw [oC _ _ (by omega) (by omega), t7]; exact e1
      · rw [t7]; exact e2
      · intro k hk
        rw [t7] at hk
        rw [oC _ _ (by omega) (by omega), oM _ _ (by omega) (by omega)]; exact e3 k hk
      · intro k hk
        by_cases w : k = i
        · rw [w, gi_si_s, gi_si_s]
        · rw [oC _ _ (by omega) (by omega), oM _ _ (by omega) (by omega)]; exact f k hk
      · by_cases w : i = 0
        · subst w; exact lcy 36 y3.1 (by omega)
        · exact LC_eq g1 (fun a k h1 h2 _ => oC a k (by omega) (by omega))
      · by_cases w : i = 1
        · subst w; exact lcy 56 y3.1 (by omega)
        · exact LC_eq g2 (fun a k h1 h2 _ => oC a k (by omega) (by omega))
      · exact LC_eq g3 (fun a k h1 h2 _ => oC a k (by omega) (by omega))
      · exact InvG_cg hI r0
      · exact RS_cg hI (RSg_in hI hR (fun a k h1 h2 => oC a k (by omega) (by omega))) r0
      · intro k hk hkk
        by_cases w : k = i
        · subst w
          have rr : ∀ n, n < 315 → reg (si z 102 k (vp_nar .boolean 1)) (315 * (1 + k)) n = reg m 0 n := fun n hn => z3 n hn
          have hy : RS y (36 + 20 * k) (reg m 0) := ⟨y3, fun a ha e he => by rw [y4 a e ha he]; exact hR.2 a ha e he⟩
          exact ⟨InvG_cg hI rr, RS_cg hI (RSg_in hI hy (fun a n h1 h2 => gy a n (by omega))) rr⟩
        · rw [oM _ _ (by omega) (by omega)] at hkk
          obtain ⟨j1, j2⟩ := j k hk hkk
          have rr : ∀ n, n < 315 → reg (si z 102 i (vp_nar .boolean 1)) (315 * (1 + k)) n = reg m (315 * (1 + k)) n := fun n hn => oM _ _ (by omega) (by omega)
          exact ⟨InvG_cg j1 rr, RS_cg j1 (RSg_in j1 j2 (fun a n h1 h2 => oC a n (by omega) (by omega))) rr⟩
theorem s_from {c m : St} (h : Rel c m) (v : Int32) : Sim (ff_GG_from c 0 v) (ff_MO_from m 100 v) := by
  obtain ⟨⟨a1, a2, a3⟩, ⟨b1, b2⟩, ⟨d1, d2⟩, ⟨e1, e2, e3⟩, f, ⟨g1, g2, g3⟩, ⟨hI, hR⟩, j⟩ := id h
  unfold ff_GG_from ff_MO_from
  rw [p_within, bnd_some, p_in, bnd_some]
  by_cases q : wn v 0 1 = 0
  · rw [if_pos q, if_pos q]; exact Sim_bad h
  · obtain ⟨i, -, i2, rfl⟩ := wn_nat (a := 0) (b := 1) (by decide) (by decide) q
    have hi : i < 2 := by omega
    have hb : ixb (nI i) 2 = true := ixb_nI hi (by omega)
    rw [if_neg q, if_neg q, show rf 0 1 = 1 from rfl, show rf 0 2 = 2 from rfl, show rf 0 0 = 16 from rfl, show ln 1 = 2 from rfl, show ln 2 = 2 from rfl, if_pos hb, if_pos hb, ix_nI (by omega), rf1 hi, show rf 100 2 = 102 from rfl, show ln 102 = 2 from rfl, if_pos hb, f i hi]
    by_cases w : gi m 102 i = 0
    · rw [if_pos w, if_pos w]; exact Sim_no h
    · rw [if_neg w, if_neg w]
      obtain ⟨j1, j2⟩ := j i hi w
      obtain ⟨y, y1, y2, y3, y4⟩ := c_copy (d := 16) (s := 36 + 20 * i) (Or.inl rfl) (spi hi) (by omega) j1 j2.1 hR.1.1
      obtain ⟨z, z1, z2, z3⟩ := m_copy (x := m) (src := 315 * (1 + i)) (dst := 0) (by omega) (by omega) (by omega)
      have hy : RS y 16 (reg m (315 * (1 + i))) := ⟨y3, fun a ha e he => by rw [y4 a e ha he]; exact j2.2 a ha e he⟩
      have z1' : ff_MO_copy m 100 (nI (315 * (1 + i))) 0 = some ((), z) := z1
      refine ⟨1, y, z, by rw [y1, bnd_some], ?_, Rel_shR h y2 z2 (InvG_cg j1 z3) (RS_cg j1 hy z3)⟩
      rw [show (315 * (1 + nI i) : Int32) = nI (315 * (1 + i)) from by rw [show (1 : Int32) = nI 1 from rfl, nI_add, show (315 : Int32) = nI 315 from rfl, pk_mul], z1', bnd_some]
theorem Rel_text {c m c' m' : St} (h : Rel c m) (hc : ∀ a k, a ≠ 4 → ¬ (a = 3 ∧ k = 1) → gi c' a k = gi c a k) (hcl : ∀ a k, gl c' a k = gl c a k) (hm : ∀ a k, a ≠ 104 → ¬ (a = 100 ∧ k = 7) → gi m' a k = gi m a k) (hml : ∀ a k, gl m' a k = gl m a k) (e1' : gi c' 3 1 = gi m' 100 7) (e2' : rg 250 (gi m' 100 7)) (e3' : ∀ i, i < ix (gi m' 100 7) → gi c' 4 i = gi m' 104 i &&& 255) : Rel c' m' := by
  obtain ⟨⟨a1, a2, a3⟩, ⟨b1, b2⟩, ⟨d1, d2⟩, -, f, ⟨g1, g2, g3⟩, ⟨i1, i2⟩, j⟩ := h
  have r : ∀ b, reg m' b = reg m b := fun b => reg_eq (fun k => hm _ _ (by omega) (by omega))
  refine ⟨⟨?_, ?_, ?_⟩, ⟨?_, ?_⟩, ⟨?_, ?_⟩, ⟨e1', e2', e3'⟩, ?_, ⟨?_, ?_, ?_⟩, ⟨?_, ?_⟩, ?_⟩
  · rw [hc _ _ (by omega) (by omega), hm _ _ (by omega) (by omega)]; exact a1
  · rw [hc _ _ (by omega) (by omega), hm _ _ (by omega) (by omega)]; exact a2
  · rw [hc _ _ (by omega) (by omega), hm _ _ (by omega) (by omega)]; exact a3
  · rw [hcl, hml]; exact b1
  · rw [hcl, hml]; exact b2
  · rw [hm _ _ (by omega) (by omega)]; exact d1
  · rw [hm _ _ (by omega) (by omega)]; exact d2
  · intro i hi
    rw [hc _ _ (by omega) (by omega), hm _ _ (by omega) (by omega)]; exact f i hi
  · exact LC_eq g1 (fun a k h1 _ _ => hc a k (by omega) (by omega))
  · exact LC_eq g2 (fun a k h1 _ _ => hc a k (by omega) (by omega))
  · exact LC_eq g3 (fun a k h1 _ _ => hc a k (by omega) (by omega))
  · rw [r]; exact i1
  · rw [r]; exact RSg_in i1 i2 (fun a k h1 _ => hc a k (by omega) (by omega))
  · intro i hi hk
    rw [hm _ _ (by omega) (by omega)] at hk
    rw [r]
    obtain ⟨j1, j2⟩ := j i hi hk
    exact ⟨j1, RSg_in j1 j2 (fun a k h1 _ => hc a k (by omega) (by omega))⟩
theorem s_clear {c m : St} (h : Rel c m) : Sim (ff_GG_clear c 0) (ff_MO_clear m 100) := by
  have e1 := h.2.2.2.1.1
  refine ⟨gi m 100 7, si c 3 1 0, si m 100 7 0, ?_, rfl, ?_⟩
  · unfold ff_GG_clear
    rw [st_eq, show rf 0 3 = 3 from rfl, e1]
  · refine Rel_text h (fun a k _ hk => gi_si_n _ _ _ _ hk) (fun _ _ => rfl) (fun a k _ hk => gi_si_n _ _ _ _ hk) (fun _ _ => rfl) (by rw [gi_si_s, gi_si_s]) (by rw [gi_si_s]; exact rg_nI (k := 0) (by omega) (by decide)) (fun i hi => ?_)
    rw [gi_si_s] at hi
    exact absurd hi (Nat.not_lt_zero i)
/-! digests -/
def dg (g : Nat → Int32) : Nat → Nat → Int64 → Int64
  | _, 0, a => a
  | b, n + 1, a => dg g (b + 1) n (31 * a + (g b).toInt64)
theorem dg_add (g : Nat → Int32) : ∀ (n b k : Nat) (a : Int64), dg g b (n + k) a = dg g (b + n) k (dg g b n a)
  | 0, b, k, a => by rw [Nat.zero_add, Nat.add_zero]; rfl
  | n + 1, b, k, a => by
    rw [show n + 1 + k = (n + k) + 1 by omega]
    show dg g (b + 1) (n + k) (31 * a + (g b).toInt64) = _
    rw [dg_add g n (b + 1) k, show b + 1 + n = b + (n + 1) by omega]; rfl
theorem c_mixL {x : St} {q w n base : Nat} {g : Nat → Int32} (h3 : gi x q 3 = nI n) (h1 : gi x q 1 = nI w) (hn : n * w < 100) (hl : n * w ≤ ln (rf q 2)) (hg : ∀ i, i < n * w → gi x (rf q 2) i = g (base + i)) : ∀ (r N i : Nat) (a : Int64), i + r = n * w → r < N → ff_LE_mixInto_5 N x q a (nI i) = some (dg g (base + i) r a, x) := by
  intro r
  induction r with
  | zero =>
    intro N i a hi hN
    obtain ⟨N, rfl⟩ : ∃ K, N = K + 1 := ⟨N - 1, by omega⟩
    show (if gi x q 3 * gi x q 1 ≤ nI i then _ else _) = _
    rw [h3, h1, pk_mul, if_pos (nI_le (by omega) (by omega))]; rfl
  | succ r ih =>
    intro N i a hi hN
    obtain ⟨N, rfl⟩ : ∃ K, N = K + 1 := ⟨N - 1, by omega⟩
    show (if gi x q 3 * gi x q 1 ≤ nI i then _ else _) = _
    rw [h3, h1, pk_mul, if_neg (nI_ge (by omega) (by omega)), if_pos (ixb_nI (by omega) (by omega)), lj_eq, ix_nI (by omega), hg i (by omega), nI_1, ih N (i + 1) _ (by omega) (by omega)]; rfl
theorem c_mixJ {x : St} {g : Nat → Int32} (hI : InvG g) (h : RL x 16 g) : ∀ (r N j : Nat) (a : Int64), j + r = ix (g 1) → r < N → ff_SH_mixJointsInto_5 N x 16 a (nI j) = some (dg g (25 + 4 * j) (4 * r) a, x) := by
  have hs : sp 16 := Or.inl rfl
  have hJ := hI.1.2.1
  have hJ2 := hJ.2
  have hz : gi x (rf 16 1) 3 = nI (ix (g 1)) := by rw [(sp_rf hs).2.1, h.2.1.2.1]; exact hJ.1
  intro r
  induction r with
  | zero =>
    intro N j a hj hN
    obtain ⟨N, rfl⟩ : ∃ K, N = K + 1 := ⟨N - 1, by omega⟩
    show (if gi x (rf 16 1) 3 ≤ nI j then _ else _) = _
    rw [hz, if_pos (nI_le (by omega) (by omega))]; rfl
  | succ r ih =>
    intro N j a hj hN
    obtain ⟨N, rfl⟩ : ∃ K, N = K + 1 := ⟨N - 1, by omega⟩
    have e0 := at_jo hs hI h (i := j) (by omega)
    show (if gi x (rf 16 1) 3 ≤ nI j then _ else _) = _
    rw [hz, if_neg (nI_ge (by omega) (by omega)), show (0 : Int32) = nI 0 from rfl, e0, bnd_some, lj_eq, c_boiledOn hs hI h (by omega), bnd_some, lj_eq, c_firstBoiler hs hI h (by omega), bnd_some, lj_eq, c_secondBoiler hs hI h (by omega), bnd_some, lj_eq, nI_1, ih N (j + 1) _ (by omega) (by omega), show 4 * (r + 1) = 4 + 4 * r by omega, dg_add, show 25 + 4 * (j + 1) = 25 + 4 * j + 4 by omega]
    show _ = some (dg g (25 + 4 * j + 4) (4 * r) (31 * (31 * (31 * (31 * a + (g (25 + 4 * j)).toInt64) + (g (25 + 4 * j + 1)).toInt64) + (g (25 + 4 * j + 1 + 1)).toInt64) + (g (25 + 4 * j + 1 + 1 + 1)).toInt64), x)
    rw [show 25 + 4 * j + 1 + 1 + 1 = 28 + 4 * j by omega, show 25 + 4 * j + 1 + 1 = 27 + 4 * j by omega, show 25 + 4 * j + 1 = 26 + 4 * j by omega]
def onlyD (x y : St) : Prop := (∀ a k, gi y a k = gi x a k) ∧ ∀ a k, ¬ (a = 100 ∧ k = 22) → gl y a k = gl x a k
theorem m_dgL {b base n : Nat} {g : Nat → Int32} (hn : base + n ≤ 315) : ∀ (r N v : Nat) (x : St), v + r = base + n → r < N → MV x b g → ∃ y, ff_MO_digestRow_2 N x 100 (nI base) (nI n) (nI v) = some ((), y) ∧ onlyD x y ∧ gl y 100 22 = dg g v r (gl x 100 22) := by
  intro r
  induction r with
  | zero =>
    intro N v x hv hN hV
    obtain ⟨N, rfl⟩ : ∃ K, N = K + 1 := ⟨N - 1, by omega⟩
    refine ⟨x, ?_, ⟨fun _ _ => rfl, fun _ _ _ => rfl⟩, rfl⟩
    show (if nI base + nI n ≤ nI v then _ else _) = _
    rw [nI_add, if_pos (nI_le (by omega) (by omega))]
  | succ r ih =>
    intro N v x hv hN hV
    obtain ⟨N, rfl⟩ : ∃ K, N = K + 1 := ⟨N - 1, by omega⟩
    obtain ⟨y, y1, y2, y3⟩ := ih N (v + 1) (sl x 100 22 (31 * gl x 100 22 + (g v).toInt64)) (by omega) (by omega) ⟨hV.1, hV.2.1, hV.2.2⟩
    refine ⟨y, ?_, ⟨fun a k => y2.1 a k, fun a k ha => by rw [y2.2 a k ha, gl_sl, if_neg ha]⟩, ?_⟩
    · rw [← y1]
      show (if nI base + nI n ≤ nI v then _ else _) = _
      rw [nI_add, if_neg (nI_ge (by omega) (by omega)), m_get hV (by omega), bnd_some, st_eq, nI_1]
    · rw [y3, gl_sl, if_pos ⟨rfl, rfl⟩]; rfl
