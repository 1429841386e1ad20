/-! one shop on both sides -/
def Pl (c m : St) (s b : Nat) : Prop := sp s ∧ (gi m 100 1 = nI b ∧ b + 315 ≤ 1260) ∧ InvG (reg m b) ∧ RL c s (reg m b)
theorem newRow_S {s q w n : Nat} {v : Nat → Int32} {x y : St} (h : newRow q w n v x y) (h1 : s ≤ q ∧ q < s + 20) (h2 : s ≤ rf q 2 ∧ rf q 2 < s + 20) : onlyS s x y := ⟨fun a k ha => h.1 a k (fun e => ha (by omega)) (fun e => ha (by omega)), h.2.1⟩
theorem adM {c m : St} {s b n : Nat} {v0 v1 v2 : Int32} (h : Pl c m s b) (hn : n = ix (reg m b 0)) (hn2 : n < 6) (h0 : rg 5 v0) (h1 : rg 99 v1) (h2 : rg 99 v2) : ∃ c' m', ff_LE_add c (rf s 0) v0 v1 v2 = some (nI n, c') ∧ ff_MO_addMourner m 100 v0 v1 v2 = some ((), m') ∧ Pl c' m' s b ∧ onlyS s c c' ∧ newReg b 7 3 0 n (fun i => if i = 0 then v0 else if i = 1 then v1 else v2) m m' ∧ ∀ a k, s + 11 ≤ a → gi c' a k = gi c a k := by
  obtain ⟨hs, ⟨hb1, hb2⟩, hI, hR⟩ := h
  have rq := (sp_rf hs).1
  have rc := (sp_le hs).1
  have rl := (sp_ln hs).1
  have hz : reg m b 0 = nI n := by rw [hn]; exact (hI.1.1).1
  have hg : gi c (rf s 0) 3 = nI n := by rw [rq, hR.2.1.1]; exact hz
  have rr : rf (rf s 0) 2 = s + 2 := by rw [rq]; exact rc
  obtain ⟨c', c1, c2⟩ := le_add3  hg (by rw [rq]; exact hR.1.1.1) (by rw [rq]; exact hR.1.1.2) hn2 (by decide) (by rw [rr, rl]; omega) (by rw [rr, rq]; omega)
  obtain ⟨m', m1, m2⟩ := m_addM  hb1 hb2 hz hn2
  have hS : onlyS s c c' := newRow_S c2 (by rw [rq]; omega) (by rw [rr]; omega)
  have hc2 := c2
  unfold newRow at hc2
  rw [rr, rq] at hc2
  obtain ⟨a1, a2, a3, a4⟩ := hc2
  obtain ⟨b1, b2, b3, b4⟩ := id m2
  refine ⟨c', m', c1, m1, ⟨hs, ⟨by rw [b1.1 _ _ (by omega)]; exact hb1, hb2⟩, ?_, ?_⟩, hS, m2, fun a k ha => a1 a k (by omega) (by omega)⟩
  · have e0 : reg m' b (7 + 3 * n) = v0 := b4 0 (by omega)
    have e1 : reg m' b (8 + 3 * n) = v1 := by have := b4 1 (by omega); rw [show 7 + 3 * n + 1 = 8 + 3 * n by omega] at this; exact this
    have e2 : reg m' b (9 + 3 * n) = v2 := by have := b4 2 (by omega); rw [show 7 + 3 * n + 2 = 9 + 3 * n by omega] at this; exact this
    exact InvG_mo hI hn hn2 b2 b3 (by rw [e0]; exact h0) (by rw [e1]; exact h1) (by rw [e2]; exact h2)
  · exact RL_mo hI hR hn hn2 a1 a3 b2 b3 (fun i hi => by rw [a4 i hi, b4 i hi])
theorem adJ {c m : St} {s b n : Nat} {v0 : Int32} (h : Pl c m s b) (hn : n = ix (reg m b 1)) (hn2 : n < 6) (h0 : rg 99 v0) : ∃ c' m', ff_LE_add c (rf s 1) v0 0 0 = some (nI n, c') ∧ ff_MO_addJoint m 100 v0 = some ((), m') ∧ Pl c' m' s b ∧ onlyS s c c' ∧ newReg b 25 4 1 n (fun i => if i = 0 then v0 else -1) m m' ∧ ∀ a k, s + 11 ≤ a → gi c' a k = gi c a k := by
  obtain ⟨hs, ⟨hb1, hb2⟩, hI, hR⟩ := h
  have rq := (sp_rf hs).2.1
  have rc := (sp_le hs).2.1
  have rl := (sp_ln hs).2.1
  have hz : reg m b 1 = nI n := by rw [hn]; exact (hI.1.2.1).1
  have hg : gi c (rf s 1) 3 = nI n := by rw [rq, hR.2.1.2.1]; exact hz
  have rr : rf (rf s 1) 2 = s + 4 := by rw [rq]; exact rc
  obtain ⟨c', c1, c2⟩ := le_add1  hg (by rw [rq]; exact hR.1.2.1.1) (by rw [rq]; exact hR.1.2.1.2) hn2 (by decide) (by rw [rr, rl]; omega) (by rw [rr, rq]; omega)
  obtain ⟨m', m1, m2⟩ := m_addJ  hb1 hb2 hz hn2
  have hS : onlyS s c c' := newRow_S c2 (by rw [rq]; omega) (by rw [rr]; omega)
  have hc2 := c2
  unfold newRow at hc2
  rw [rr, rq] at hc2
  obtain ⟨a1, a2, a3, a4⟩ := hc2
  obtain ⟨b1, b2, b3, b4⟩ := id m2
  refine ⟨c', m', c1, m1, ⟨hs, ⟨by rw [b1.1 _ _ (by omega)]; exact hb1, hb2⟩, ?_, ?_⟩, hS, m2, fun a k ha => a1 a k (by omega) (by omega)⟩
  · have e0 : reg m' b (25 + 4 * n) = v0 := b4 0 (by omega)
    have e1 : reg m' b (26 + 4 * n) = -1 := by have := b4 1 (by omega); rw [show 25 + 4 * n + 1 = 26 + 4 * n by omega] at this; exact this
    have e2 : reg m' b (27 + 4 * n) = -1 := by have := b4 2 (by omega); rw [show 25 + 4 * n + 2 = 27 + 4 * n by omega] at this; exact this
    have e3 : reg m' b (28 + 4 * n) = -1 := by have := b4 3 (by omega); rw [show 25 + 4 * n + 3 = 28 + 4 * n by omega] at this; exact this
    exact InvG_jo hI hn hn2 b2 b3 (by rw [e0]; exact h0) (Or.inl ⟨e1, e2, e3⟩)
  · refine RL_jo hI hR hn hn2 a1 a3 b2 b3 (fun i hi => ?_) (fun k hk => ?_)
    · have : i = 0 := by omega
      subst this
      rw [a4 0 hi, b4 0 (by omega)]; rfl
    · have := b4 (k + 1) (by omega)
      rw [show 25 + 4 * n + (k + 1) = 26 + 4 * n + k by omega] at this
      rw [this]
      show (if k + 1 = 0 then v0 else -1) = -1
      rw [if_neg (by omega)]
theorem adP {c m : St} {s b n : Nat} {v0 v1 : Int32} (h : Pl c m s b) (hn : n = ix (reg m b 2)) (hn2 : n < 4) (h0 : rg (2 ^ ix (reg m b 1) - 1) v0) (h0' : 0 < ix v0) (h1 : rg 99 v1) : ∃ c' m', ff_LE_add c (rf s 2) v0 v1 0 = some (nI n, c') ∧ ff_MO_addPiece m 100 v0 v1 = some ((), m') ∧ Pl c' m' s b ∧ onlyS s c c' ∧ newReg b 49 2 2 n (fun i => if i = 0 then v0 else v1) m m' ∧ ∀ a k, s + 11 ≤ a → gi c' a k = gi c a k := by
  obtain ⟨hs, ⟨hb1, hb2⟩, hI, hR⟩ := h
  have rq := (sp_rf hs).2.2.1
  have rc := (sp_le hs).2.2.1
  have rl := (sp_ln hs).2.2.1
  have hz : reg m b 2 = nI n := by rw [hn]; exact (hI.1.2.2.1).1
  have hg : gi c (rf s 2) 3 = nI n := by rw [rq, hR.2.1.2.2.1]; exact hz
  have rr : rf (rf s 2) 2 = s + 6 := by rw [rq]; exact rc
  obtain ⟨c', c1, c2⟩ := le_add2  hg (by rw [rq]; exact hR.1.2.2.1.1) (by rw [rq]; exact hR.1.2.2.1.2) hn2 (by decide) (by rw [rr, rl]; omega) (by rw [rr, rq]; omega)
  obtain ⟨m', m1, m2⟩ := m_addP  hb1 hb2 hz hn2
  have hS : onlyS s c c' := newRow_S c2 (by rw [rq]; omega) (by rw [rr]; omega)
  have hc2 := c2
  unfold newRow at hc2
  rw [rr, rq] at hc2
  obtain ⟨a1, a2, a3, a4⟩ := hc2
  obtain ⟨b1, b2, b3, b4⟩ := id m2
  refine ⟨c', m', c1, m1, ⟨hs, ⟨by rw [b1.1 _ _ (by omega)]; exact hb1, hb2⟩, ?_, ?_⟩, hS, m2, fun a k ha => a1 a k (by omega) (by omega)⟩
  · have e0 : reg m' b (49 + 2 * n) = v0 := b4 0 (by omega)
    have e1 : reg m' b (50 + 2 * n) = v1 := by have := b4 1 (by omega); rw [show 49 + 2 * n + 1 = 50 + 2 * n by omega] at this; exact this
    exact InvG_pi hI hn hn2 b2 b3 (by rw [e0]; exact h0) (by rw [e0]; exact h0') (by rw [e1]; exact h1)
  · exact RL_pi hI hR hn hn2 a1 a3 b2 b3 (fun i hi => by rw [a4 i hi, b4 i hi])
theorem adF {c m : St} {s b n : Nat} {v0 v1 v2 : Int32} (h : Pl c m s b) (hn : n = ix (reg m b 3)) (hn2 : n < 10) (h0 : rg 1 v0) (h1 : rg 99 v1) (h1' : 0 < ix v1) (h2 : rg 5 v2) (h2' : ix v2 < ix (reg m b 0)) : ∃ c' m', ff_LE_add c (rf s 3) v0 v1 v2 = some (nI n, c') ∧ ff_MO_addFeast m 100 v0 v1 v2 = some ((), m') ∧ Pl c' m' s b ∧ onlyS s c c' ∧ newReg b 57 3 3 n (fun i => if i = 0 then v0 else if i = 1 then v1 else v2) m m' ∧ ∀ a k, s + 11 ≤ a → gi c' a k = gi c a k := by
  obtain ⟨hs, ⟨hb1, hb2⟩, hI, hR⟩ := h
  have rq := (sp_rf hs).2.2.2.1
  have rc := (sp_le hs).2.2.2.1
  have rl := (sp_ln hs).2.2.2.1
  have hz : reg m b 3 = nI n := by rw [hn]; exact (hI.1.2.2.2.1).1
  have hg : gi c (rf s 3) 3 = nI n := by rw [rq, hR.2.1.2.2.2.1]; exact hz
  have rr : rf (rf s 3) 2 = s + 8 := by rw [rq]; exact rc
  obtain ⟨c', c1, c2⟩ := le_add3  hg (by rw [rq]; exact hR.1.2.2.2.1.1) (by rw [rq]; exact hR.1.2.2.2.1.2) hn2 (by decide) (by rw [rr, rl]; omega) (by rw [rr, rq]; omega)
  obtain ⟨m', m1, m2⟩ := m_addF  hb1 hb2 hz hn2
  have hS : onlyS s c c' := newRow_S c2 (by rw [rq]; omega) (by rw [rr]; omega)
  have hc2 := c2
  unfold newRow at hc2
  rw [rr, rq] at hc2
  obtain ⟨a1, a2, a3, a4⟩ := hc2
  obtain ⟨b1, b2, b3, b4⟩ := id m2
  refine ⟨c', m', c1, m1, ⟨hs, ⟨by rw [b1.1 _ _ (by omega)]; exact hb1, hb2⟩, ?_, ?_⟩, hS, m2, fun a k ha => a1 a k (by omega) (by omega)⟩
  · have e0 : reg m' b (57 + 3 * n) = v0 := b4 0 (by omega)
    have e1 : reg m' b (58 + 3 * n) = v1 := by have := b4 1 (by omega); rw [show 57 + 3 * n + 1 = 58 + 3 * n by omega] at this; exact this
    have e2 : reg m' b (59 + 3 * n) = v2 := by have := b4 2 (by omega); rw [show 57 + 3 * n + 2 = 59 + 3 * n by omega] at this; exact this
    exact InvG_fe hI hn hn2 b2 b3 (by rw [e0]; exact h0) (by rw [e1]; exact h1) (by rw [e1]; exact h1') (by rw [e2]; exact h2) (by rw [e2]; exact h2')
  · exact RL_fe hI hR hn hn2 a1 a3 b2 b3 (fun i hi => by rw [a4 i hi, b4 i hi])
theorem Rel_sh {c m c' m' : St} (h : Rel c m) (hc : onlyS 16 c c') (hm : ∀ a k, ¬ (a = 101 ∧ k < 315) → a ≠ 105 → ¬ (a = 100 ∧ k = 13) → gi m' a k = gi m a k) (hl : ∀ a k, gl m' a k = gl m a k) (h13 : gi m' 100 13 = -1) (hI : InvG (reg m' 0)) (hR : RS c' 16 (reg m' 0)) : Rel c' m' := by
  obtain ⟨⟨a1, a2, a3⟩, ⟨b1, b2⟩, ⟨d1, d2⟩, ⟨e1, e2, e3⟩, f, ⟨g1, g2, g3⟩, -, j⟩ := h
  have t7 : gi m' 100 7 = gi m 100 7 := hm _ _ (by omega) (by omega) (by omega)
  refine ⟨⟨?_, ?_, ?_⟩, ⟨?_, ?_⟩, ⟨?_, h13⟩, ⟨?_, ?_, ?_⟩, ?_, ⟨?_, ?_, ?_⟩, ⟨hI, hR⟩, ?_⟩
  · rw [hc.1 _ _ (by omega), hm _ _ (by omega) (by omega) (by omega)]; exact a1
  · rw [hc.1 _ _ (by omega), hm _ _ (by omega) (by omega) (by omega)]; exact a2
  · rw [hc.1 _ _ (by omega), hm _ _ (by omega) (by omega) (by omega)]; exact a3
  · rw [hc.2, hl]; exact b1
  · rw [hc.2, hl]; exact b2
  · rw [hm _ _ (by omega) (by omega) (by omega)]; exact d1
  · rw [hc.1 _ _ (by omega), t7]; exact e1
  · rw [t7]; exact e2
  · intro i hi
    rw [t7] at hi
    rw [hc.1 _ _ (by omega), hm _ _ (by omega) (by omega) (by omega)]; exact e3 i hi
  · intro i hi
    rw [hc.1 _ _ (by omega), hm _ _ (by omega) (by omega) (by omega)]; exact f i hi
  · exact LC_eq g1 (fun a k h1 _ _ => hc.1 a k (by omega))
  · exact LC_eq g2 (fun a k h1 _ _ => hc.1 a k (by omega))
  · exact LC_eq g3 (fun a k h1 _ _ => hc.1 a k (by omega))
  · intro i hi hk
    rw [hm _ _ (by omega) (by omega) (by omega)] at hk
    have er : reg m' (315 * (1 + i)) = reg m (315 * (1 + i)) := reg_eq (fun k => hm _ _ (by omega) (by omega) (by omega))
    rw [er]
    obtain ⟨j1, j2⟩ := j i hi hk
    exact ⟨j1, RSg_in j1 j2 (fun a k h1 _ => hc.1 a k (by omega))⟩
theorem Rel_shR {c m c' m' : St} (h : Rel c m) (hc : onlyS 16 c c') (hm : onlyR 0 m m') (hI : InvG (reg m' 0)) (hR : RS c' 16 (reg m' 0)) : Rel c' m' :=
  Rel_sh h hc (fun a k h1 _ _ => hm.1 a k (by omega)) hm.2 (by rw [hm.1 _ _ (by omega)]; exact h.2.2.1.2) hI hR
theorem Rel_Pl {c m : St} (h : Rel c m) : Pl c m 16 0 := ⟨Or.inl rfl, ⟨h.2.2.1.1, by decide⟩, h.2.2.2.2.2.2.1.1, h.2.2.2.2.2.2.1.2.1⟩
theorem eq6 {n L : Nat} (hn : n ≤ L) (hL : L < 100) : (nI n = nI L) ↔ ¬ n < L := by rw [nI_eq (by omega) (by omega)]; omega
theorem wn_rg {v : Int32} {b : Nat} (hb : b < 1000) (h : ¬ wn v 0 (nI b) = 0) : rg b v := by
  obtain ⟨n, -, h2, rfl⟩ := wn_nat (a := 0) (by decide) (by omega) h
  exact rg_nI h2 (by omega)
theorem c_renew {x : St} {s k : Nat} {g : Nat → Int32} (hs : sp s) (hI : InvG g) (h : RL x s g) (hk : k < ix (g 0)) : ∃ y, ff_SH_renewGriefs x s (nI k) = some ((), y) ∧ only (s + 12 + k) x y ∧ ∀ e, e < 100 → gi y (s + 12 + k) e = nI (GR g (-1) k e) := by
  have hM := hI.1.1
  have hM2 := hM.2
  obtain ⟨y, y1, y2, y3⟩ := c_fillGriefs (q := s + 12 + k) (w := -1) hs hI h hk (by omega) (sp_row hs (by omega)).2
  refine ⟨y, ?_, y2, y3⟩
  unfold ff_SH_renewGriefs
  rw [p_has, bnd_some, (sp_rf hs).1, h.2.1.1, hM.1, hs_yes hk (by omega), if_neg (by decide), (sp_rf hs).2.2.2.2.2.1, (sp_ln hs).2.2.2.2.2.1, if_pos (ixb_nI (by omega) (by omega)), ix_nI (by omega), (sp_row hs (by omega)).1, y1, bnd_some]
theorem fl0 {c m : St} (h : Rel c m) : ff_LE_isFull c (rf (rf 0 0) 0) = some (if ix (reg m 0 0) < 6 then 0 else 1, c) := by
  obtain ⟨-, -, -, -, -, -, ⟨hI, hR⟩, -⟩ := h
  exact le_full (q := 17) (L := 6) (hR.1.2.1.1.trans (hI.1.1).1) hR.1.1.1.1 (hI.1.1).2 (by decide)
theorem fl1 {c m : St} (h : Rel c m) : ff_LE_isFull c (rf (rf 0 0) 1) = some (if ix (reg m 0 1) < 6 then 0 else 1, c) := by
  obtain ⟨-, -, -, -, -, -, ⟨hI, hR⟩, -⟩ := h
  exact le_full (q := 19) (L := 6) (hR.1.2.1.2.1.trans (hI.1.2.1).1) hR.1.1.2.1.1 (hI.1.2.1).2 (by decide)
theorem fl2 {c m : St} (h : Rel c m) : ff_LE_isFull c (rf (rf 0 0) 2) = some (if ix (reg m 0 2) < 4 then 0 else 1, c) := by
  obtain ⟨-, -, -, -, -, -, ⟨hI, hR⟩, -⟩ := h
  exact le_full (q := 21) (L := 4) (hR.1.2.1.2.2.1.trans (hI.1.2.2.1).1) hR.1.1.2.2.1.1 (hI.1.2.2.1).2 (by decide)
theorem fl3 {c m : St} (h : Rel c m) : ff_LE_isFull c (rf (rf 0 0) 3) = some (if ix (reg m 0 3) < 10 then 0 else 1, c) := by
  obtain ⟨-, -, -, -, -, -, ⟨hI, hR⟩, -⟩ := h
  exact le_full (q := 23) (L := 10) (hR.1.2.1.2.2.2.1.trans (hI.1.2.2.2.1).1) hR.1.1.2.2.2.1.1 (hI.1.2.2.2.1).2 (by decide)
theorem fl4 {c m : St} (h : Rel c m) : ff_LE_isFull c (rf (rf 0 0) 4) = some (if ix (reg m 0 4) < 6 then 0 else 1, c) := by
  obtain ⟨-, -, -, -, -, -, ⟨hI, hR⟩, -⟩ := h
  exact le_full (q := 25) (L := 6) (hR.1.2.1.2.2.2.2.1.trans (hI.1.2.2.2.2.1).1) hR.1.1.2.2.2.2.1 (hI.1.2.2.2.2.1).2 (by decide)
theorem s_mourner {c m : St} (h : Rel c m) (a b d : Int32) : Sim (ff_GG_mourner c 0 a b d) (ff_MO_mourner m 100 a b d) := by
  have hV := Rel_MV h
  have hP := Rel_Pl h
  obtain ⟨-, -, -, -, -, -, ⟨hI, hR⟩, -⟩ := id h
  have r0 := hI.1.1
  have r02 := r0.2
  unfold ff_GG_mourner ff_MO_mourner
  rw [p_within, bnd_some, p_in, bnd_some]
  by_cases q : wn a 0 5 = 0
  · rw [if_pos q, if_pos q]; exact Sim_bad h
  · rw [if_neg q, if_neg q, p_within, bnd_some, p_in, bnd_some]
    by_cases q2 : wn b 0 99 = 0
    · rw [if_pos q2, if_pos q2]; exact Sim_bad h
    · rw [if_neg q2, if_neg q2, p_within, bnd_some, p_in, bnd_some]
      by_cases q3 : wn d 0 99 = 0
      · rw [if_pos q3, if_pos q3]; exact Sim_bad h
      · rw [if_neg q3, if_neg q3, fl0 h, bnd_some, show ff_MO_get m 100 0 = some (nI (ix (reg m 0 0)), m) from m_getN hV (k := 0) (by decide) r0, bnd_some]
        by_cases z : ix (reg m 0 0) < 6
        · rw [if_pos z, if_pos (by decide), if_neg (show ¬ nI (ix (reg m 0 0)) = 6 from fun e => (eq6 (L := 6) r02 (by decide)).mp e z)]
          obtain ⟨c', m', c1, m1, ⟨-, ⟨hb, -⟩, hI', hR'⟩, hS, hN, hrow⟩ := adM hP rfl z (wn_rg (b := 5) (by decide) q) (wn_rg (b := 99) (by decide) q2) (wn_rg (b := 99) (by decide) q3)
          obtain ⟨n1, n2, n3, n4⟩ := id hN
          have hk : ix (reg m 0 0) < ix (reg m' 0 0) := by rw [n3, ix_nI (by omega)]; omega
          obtain ⟨y, y1, y2, y3⟩ := c_renew (Or.inl rfl) hI' hR' hk
          refine ⟨nI (ix (reg m 0 0)), y, m', ?_, ?_, ?_⟩
          · unfold ff_SH_addMourner
            rw [show rf 0 0 = 16 from rfl, c1, bnd_some, y1, bnd_some, bnd_some]
          · rw [m1, bnd_some, show ff_MO_get m' 100 0 = some (reg m' 0 0, m') from m_g (k := 0) hb (by decide) (by decide), bnd_some, n3, nI_pred]
          · refine Rel_shR h (onlyS_tr hS (onlyS_of y2 (by omega) (by omega))) n1 hI' ⟨RL_only hR' y2 (by omega), fun k hk2 e he => ?_⟩
            have hk3 : k < ix (reg m 0 0) + 1 := by rw [n3, ix_nI (by omega)] at hk2; exact hk2
            by_cases w : k = ix (reg m 0 0)
            · rw [w]; exact y3 e he
            · rw [y2.1 _ _ (by omega), hrow _ _ (by omega), hR.2 k (by omega) e he, GR_cg (n2 3 (by omega) (by omega)) (n2 _ (by omega) (by omega)) (n2 _ (by omega) (by omega)) (fun f hf => ⟨n2 _ (by have := hI.1.2.2.2.1.2; omega) (by omega), n2 _ (by omega) (by omega), n2 _ (by omega) (by omega)⟩)]
        · rw [if_neg z, if_neg (by decide), if_pos (show nI (ix (reg m 0 0)) = 6 from (eq6 (L := 6) r02 (by decide)).mpr z)]; exact Sim_full h
