/-! onions, day by day -/
def tL (g : Nat → Int32) (m need : Nat) : Nat → Nat → (Nat → Nat) → Nat → Nat
  | _, 0, W => W
  | d, n + 1, W => tL g m need (d + 1) n (tD (fun v => dayN g (-1) m v d) need W)
def mnU (W : Nat → Nat) : Nat → Nat → Nat → Nat
  | _, 0, k => k
  | e, n + 1, k => mnU W (e + 1) n (if k ≤ W e then k else W e)
def t0 (v0 need : Nat) : Nat → Nat := fun e => if e = v0 ∧ need ≤ v0 then 0 else 9999
def TRn (g : Nat → Int32) (m need un : Nat) : Nat := mnU (tL g m need (ix (g 5) + 1) (un - ix (g 5)) (t0 (GR g (-1) m (ix (g 5))) need)) 0 100 9999
def TRF (g : Nat → Int32) (m need un : Nat) : Int32 := if TRn g m need un = 9999 then -1 else nI (TRn g m need un)
theorem cT_min2 {t k : Nat} (ht : t = 9999 ∨ t ≤ 1000) (hk : k = 9999 ∨ k ≤ 1000) : imin (cT t) (cT k) = cT (if t ≤ k then t else k) := by
  rcases hk with rfl | h
  · rw [if_pos (by omega)]
    rcases ht with rfl | h
    · decide
    · rw [cT_n (k := t) (by omega), show cT 9999 = nI 1000000 from rfl, imin_nI (by omega) (by decide), Nat.min_eq_left (by omega)]
  · rw [cT_n (k := k) (by omega), cT_min ht h]
theorem mn_ok {W : Nat → Nat} (hW : okW 1000 W) : ∀ (n e k : Nat), e + n ≤ 100 → (k = 9999 ∨ k ≤ 1000) → (mnU W e n k = 9999 ∨ mnU W e n k ≤ 1000)
  | 0, _, _, _, h => h
  | n + 1, e, k, he, h => mn_ok hW n (e + 1) _ (by omega) (by
    have := hW e (by omega)
    split <;> omega)
theorem tL_ok {g : Nat → Int32} {m need : Nat} : ∀ (n d c : Nat) (W : Nat → Nat), okW c W → okW (c + 3 * n) (tL g m need d n W)
  | 0, _, _, _, h => h
  | n + 1, d, c, W, h => by
    have := tL_ok (g := g) (m := m) (need := need) n (d + 1) (c + 3) _ (tD_ok (D := fun v => dayN g (-1) m v d) (need := need) h)
    rw [show c + 3 + 3 * n = c + 3 * (n + 1) by omega] at this
    exact this
theorem tL_far {g : Nat → Int32} {m need : Nat} : ∀ (n d : Nat) (W : Nat → Nat), (∀ v, v < 100 → W v = 9999) → ∀ v, v < 100 → tL g m need d n W v = 9999
  | 0, _, _, h => h
  | n + 1, d, W, h => tL_far n (d + 1) _ (fun v _ => by
    unfold tD
    rw [tV_far h 100 0 _ (by omega)])
theorem mn_far {W : Nat → Nat} (h : ∀ v, v < 100 → W v = 9999) : ∀ (n e : Nat), e + n ≤ 100 → mnU W e n 9999 = 9999
  | 0, _, _ => rfl
  | n + 1, e, he => by
    show mnU W (e + 1) n (if 9999 ≤ W e then 9999 else W e) = 9999
    rw [h e (by omega), if_pos (by omega), mn_far h n (e + 1) (by omega)]
theorem c_mn {x : St} {W : Nat → Nat} (hW : okW 1000 W) (h : rowT x 12 W) : ∀ (n N e k : Nat), e + n = 100 → n < N → (k = 9999 ∨ k ≤ 1000) → ff_OU_fewestOnions_85 N x 9 (cT k) (nI e) = ff_OU_fewestOnions_112 x (cT (mnU W e n k)) := by
  intro n
  induction n with
  | zero =>
    intro N e k he hN hk
    obtain ⟨N, rfl⟩ : ∃ K, N = K + 1 := ⟨N - 1, by omega⟩
    show (if (100 : Int32) ≤ nI e then _ else _) = _
    rw [if_pos (show (100 : Int32) ≤ nI e from nI_le (a := 100) (by omega) (by omega))]; rfl
  | succ n ih =>
    intro N e k he hN hk
    obtain ⟨N, rfl⟩ : ∃ K, N = K + 1 := ⟨N - 1, by omega⟩
    have h5 := hW e (by omega)
    show (if (100 : Int32) ≤ nI e then _ else _) = _
    rw [if_neg (show ¬ (100 : Int32) ≤ nI e from nI_ge (b := 100) (by omega) (by decide)), show rf 9 2 = 12 from rfl, show ln 12 = 100 from rfl, if_pos (ixb_nI (by omega) (by omega)), li_eq, ix_nI (by omega), h e (by omega), cT_min2 hk h5, nI_1, ih N (e + 1) _ (by omega) (by omega) (by split <;> omega)]; rfl
theorem m_mn {x : St} {W : Nat → Nat} (hW : okW 1000 W) (h : rowN x 107 W) : ∀ (n N e k : Nat), e + n = 100 → n < N → (k = 9999 ∨ k ≤ 1000) → ff_MO_tears_292 N x 100 (nI k) (nI e) = ff_MO_tears_331 x (nI (mnU W e n k)) := by
  intro n
  induction n with
  | zero =>
    intro N e k he hN hk
    obtain ⟨N, rfl⟩ : ∃ K, N = K + 1 := ⟨N - 1, by omega⟩
    show (if (99 : Int32) < nI e then _ else _) = _
    rw [if_pos (show (99 : Int32) < nI e from nI_lt (a := 99) (by omega) (by omega))]; rfl
  | succ n ih =>
    intro N e k he hN hk
    obtain ⟨N, rfl⟩ : ∃ K, N = K + 1 := ⟨N - 1, by omega⟩
    have h5 := hW e (by omega)
    have ih2 := ih N (e + 1) (if k ≤ W e then k else W e) (by omega) (by omega) (by split <;> omega)
    show (if (99 : Int32) < nI e then _ else _) = _
    rw [if_neg (show ¬ (99 : Int32) < nI e from nI_nlt (b := e) (a := 99) (by omega) (by decide)), show rf 100 16 = 107 from rfl, show ln 107 = 100 from rfl, if_pos (ixb_nI (by omega) (by omega)), ix_nI (by omega), h e (by omega), nI_1]
    show _ = ff_MO_tears_331 x (nI (mnU W (e + 1) n (if k ≤ W e then k else W e)))
    rw [← ih2]
    by_cases q : k ≤ W e
    · rw [if_pos q, if_pos (nI_le q (by omega))]
    · rw [if_neg q, if_neg (nI_ge (by omega) (by omega)), if_pos (ixb_nI (by omega) (by omega))]
theorem c_te49 {m need un : Nat} {g : Nat → Int32} (hI : InvG g) (hm : m < ix (g 0)) (hn : need ≤ 99) (hu : un ≤ 99) : ∀ (n N d c : Nat) (W : Nat → Nat) (x : St), d + n = un + 1 → n < N → RL x 16 g → okW c W → c + 3 * n ≤ 300 → rowT x 12 W →
    ∃ y, ff_OU_fewestOnions_49 N x 9 16 (nI m) (nI need) (nI un) (nI d) = ff_OU_fewestOnions_78 y 9 ∧ onlyL [11, 12, 13] x y ∧ rowT y 12 (tL g m need d n W) := by
  intro n
  induction n with
  | zero =>
    intro N d c W x hd hN h hW hc h1
    obtain ⟨N, rfl⟩ : ∃ K, N = K + 1 := ⟨N - 1, by omega⟩
    refine ⟨x, ?_, onlyL_rf, h1⟩
    show (if nI un < nI d then _ else _) = _
    rw [if_pos (nI_lt (by omega) (by omega))]
  | succ n ih =>
    intro N d c W x hd hN h hW hc h1
    obtain ⟨N, rfl⟩ : ∃ K, N = K + 1 := ⟨N - 1, by omega⟩
    obtain ⟨y, y1, y2, y3⟩ := c_fillNext (d := d) hI h hm (by omega)
    obtain ⟨z, z1, z2, z3⟩ := c_weep (D := fun v => dayN g (-1) m v d) hW (by omega) (fun v hv => dayN_le (by omega)) hn y y3 (rowT_on h1 y2 (by decide))
    have hz : RL z 16 g := RL_eq (RL_only h y2 (by omega)) (fun a k ha hb hc => z2.1 a k (by
      simp only [List.mem_cons, List.not_mem_nil, or_false]; omega))
    obtain ⟨w, w1, w2, w3⟩ := ih N (d + 1) (c + 3) _ z (by omega) (by omega) hz (tD_ok hW) (by omega) z3
    refine ⟨w, ?_, onlyL_tr (onlyL_of y2 (by decide)) (onlyL_tr ⟨fun a k ha => z2.1 a k (fun e => ha (List.mem_cons_of_mem _ e)), fun a k ha => z2.2 a k (fun e => ha (List.mem_cons_of_mem _ e))⟩ w2), w3⟩
    rw [← w1]
    show (if nI un < nI d then _ else _) = _
    rw [if_neg (nI_nlt (by omega) (by omega)), show rf 9 1 = 11 from rfl, y1, bnd_some, z1, bnd_some, nI_1]
theorem c_fewest {m need un : Nat} {g : Nat → Int32} {x : St} (hI : InvG g) (h : RS x 16 g) (hm : m < ix (g 0)) (hn : need ≤ 99) (hd : ix (g 5) ≤ un) (hu : un ≤ 99) : ∃ y, ff_OU_fewestOnions x 9 16 (nI m) (nI need) (nI un) = some (TRF g m need un, y) ∧ onlyL [11, 12, 13] x y := by
  have h5 := hI.1.2.2.2.2.2.1
  have h52 := h5.2
  have hG := GR_le (g := g) (w := -1) (hI.2.1 m hm).2.1.2 (ix (g 5))
  have hday : gi x 16 9 = nI (ix (g 5)) := by rw [h.1.2.1.2.2.2.2.2.1]; exact h5.1
  unfold ff_OU_fewestOnions
  rw [hday, c_griefOn (Or.inl rfl) hI h hm (by omega), bnd_some, p_within, bnd_some]
  by_cases q : GR g (-1) m (ix (g 5)) < need
  · have e1 : wn (nI (GR g (-1) m (ix (g 5)))) (nI need) 99 = 0 := by unfold wn; rw [if_pos (nI_lt q (by omega))]
    refine ⟨x, ?_, onlyL_rf⟩
    rw [if_pos e1]
    have e2 : TRn g m need un = 9999 := mn_far (tL_far _ _ _ (fun v _ => by unfold t0; rw [if_neg (by omega)])) 100 0 (by omega)
    unfold TRF
    rw [if_pos e2]
  · have e1 : wn (nI (GR g (-1) m (ix (g 5)))) (nI need) 99 = 1 := wn_yes (b := 99) (by omega) (by omega) (by decide)
    rw [e1, if_neg (by decide), show rf 9 2 = 12 from rfl, show ln 12 = 100 from rfl]
    obtain ⟨y, y1, y2, y3⟩ := c_fillI (x := x) (q := 12) (v := 1000000) (by decide)
    have hon := only_si 12 (GR g (-1) m (ix (g 5))) 0 y
    have hW : okW 0 (t0 (GR g (-1) m (ix (g 5))) need) := fun v _ => by unfold t0; split <;> omega
    obtain ⟨z, z1, z2, z3⟩ := c_te49 hI hm hn hu (un - ix (g 5)) FU (ix (g 5) + 1) 0 (t0 (GR g (-1) m (ix (g 5))) need) (si y 12 (GR g (-1) m (ix (g 5))) 0) (by omega) (by unfold FU; omega) (RL_only h.1 (only_tr y2 hon) (by omega)) hW (by omega) (fun e he => by
      unfold t0
      by_cases z : e = GR g (-1) m (ix (g 5))
      · rw [if_pos ⟨z, by omega⟩, z]; exact gi_si_s _ _ _ _
      · rw [if_neg (fun k => z k.1), gi_si_n _ _ _ _ (by omega)]; exact y3 e he)
    have hW2 : okW 1000 (tL g m need (ix (g 5) + 1) (un - ix (g 5)) (t0 (GR g (-1) m (ix (g 5))) need)) := fun v hv => by
      have := tL_ok (g := g) (m := m) (need := need) (un - ix (g 5)) (ix (g 5) + 1) 0 _ hW v hv
      omega
    refine ⟨z, ?_, onlyL_tr (onlyL_of (only_tr y2 hon) (by decide)) z2⟩
    rw [y1, bnd_some, if_pos (ixb_nI (by omega) (by omega)), st_eq, ix_nI (by omega), show gi (si y 12 (GR g (-1) m (ix (g 5))) 0) 16 9 = nI (ix (g 5)) from by rw [hon.1 _ _ (by decide), y2.1 _ _ (by decide)]; exact hday, nI_1, z1]
    have e3 : ff_OU_fewestOnions_85 FU z 9 1000000 0 = ff_OU_fewestOnions_112 z (cT (TRn g m need un)) := c_mn hW2 z3 100 FU 0 9999 (by omega) (by unfold FU; omega) (by omega)
    unfold ff_OU_fewestOnions_78
    rw [e3]
    have h6 := mn_ok hW2 100 0 9999 (by omega) (Or.inl rfl)
    unfold ff_OU_fewestOnions_112 TRF
    by_cases z : TRn g m need un = 9999
    · rw [if_pos z, z, if_pos (by decide)]
    · have h7 : TRn g m need un ≤ 1000 := h6.resolve_left z
      rw [if_neg z, cT_n (by omega), if_neg (show ¬ nI (TRn g m need un) = 1000000 from nI_eqn (b := 1000000) (by omega) (by decide) (by omega))]
theorem m_te111 {b m need un : Nat} {g : Nat → Int32} (hI : InvG g) (hm : m < ix (g 0)) (hn : need ≤ 99) (hu : un ≤ 99) : ∀ (n N d c : Nat) (W : Nat → Nat) (x : St), d + n = un + 1 → n < N → MV x b g → gi x 100 13 = -1 → okW c W → c + 3 * n ≤ 300 → rowN x 107 W →
    ∃ y, ff_MO_tears_111 N x 100 (nI m) (nI need) (nI un) (nI d) = ff_MO_tears_284 y 100 ∧ onlyL [107, 108] x y ∧ rowN y 107 (tL g m need d n W) := by
  intro n
  induction n with
  | zero =>
    intro N d c W x hd hN h hw hW hc h1
    obtain ⟨N, rfl⟩ : ∃ K, N = K + 1 := ⟨N - 1, by omega⟩
    refine ⟨x, ?_, onlyL_rf, h1⟩
    show (if nI un < nI d then _ else _) = _
    rw [if_pos (nI_lt (by omega) (by omega))]
  | succ n ih =>
    intro N d c W x hd hN h hw hW hc h1
    obtain ⟨N, rfl⟩ : ∃ K, N = K + 1 := ⟨N - 1, by omega⟩
    obtain ⟨y, y1, y2, y3⟩ := m_te120 (nI m) (nI need) (nI un) (nI d) (ff_MO_tears_111 N) 100 FU 0 x (by omega) (by unfold FU; omega) (fun i hi => by omega)
    obtain ⟨z, z1, z2, z3⟩ := m_te146 (b := b) (d := d) hI hm (by omega) hW (by omega) hn (nI un) (ff_MO_tears_111 N) 100 FU 0 (fun _ => 9999) y (by omega) (by unfold FU; omega) (MV_only h y2 (by decide) (by decide)) (by rw [y2.1 _ _ (by decide)]; exact hw) (fun _ _ => Or.inl rfl) (rowN_on h1 y2 (by decide)) y3
    have hz : onlyL [107, 108] x z := onlyL_tr (onlyL_of y2 (by decide)) z2
    obtain ⟨w, w1, w2, w3⟩ := ih N (d + 1) (c + 3) _ z (by omega) (by omega) ⟨by rw [hz.1 _ _ (by decide)]; exact h.1, h.2.1, fun k hk => by rw [hz.1 _ _ (by decide)]; exact h.2.2 k hk⟩ (by rw [hz.1 _ _ (by decide)]; exact hw) (tD_ok hW) (by omega) z3
    refine ⟨w, ?_, onlyL_tr hz w2, w3⟩
    rw [← w1, ← z1, ← y1]
    show (if nI un < nI d then _ else _) = _
    rw [if_neg (nI_nlt (by omega) (by omega))]; rfl
theorem m_te62 {v0 need : Nat} (hv : v0 ≤ 99) (hn : need ≤ 99) (m un : Int32) : ∀ (n N e : Nat) (x : St), e + n = 100 → n < N → (∀ i, i < e → gi x 107 i = nI (t0 v0 need i)) →
    ∃ y, ff_MO_tears_62 N x 100 m (nI need) un (nI v0) (nI e) = ff_MO_tears_102 y 100 m (nI need) un ∧ only 107 x y ∧ rowN y 107 (t0 v0 need) := by
  intro n
  induction n with
  | zero =>
    intro N e x he hN h
    obtain ⟨N, rfl⟩ : ∃ K, N = K + 1 := ⟨N - 1, by omega⟩
    refine ⟨x, ?_, only_rf, fun i hi => h i (by omega)⟩
    show (if (99 : Int32) < nI e then _ else _) = _
    rw [if_pos (show (99 : Int32) < nI e from nI_lt (a := 99) (by omega) (by omega))]
  | succ n ih =>
    intro N e x he hN h
    obtain ⟨N, rfl⟩ : ∃ K, N = K + 1 := ⟨N - 1, by omega⟩
    have hon := only_si 107 e (nI (t0 v0 need e)) x
    obtain ⟨y, y1, y2, y3⟩ := ih N (e + 1) (si x 107 e (nI (t0 v0 need e))) (by omega) (by omega) (fun i hi => by
      by_cases q : i = e
      · subst q; exact gi_si_s _ _ _ _
      · rw [gi_si_n _ _ _ _ (by omega)]; exact h i (by omega))
    refine ⟨y, ?_, only_tr hon y2, y3⟩
    rw [← y1]
    have hb : ixb (nI e) 100 = true := ixb_nI (by omega) (by omega)
    show (if (99 : Int32) < nI e then _ else _) = _
    rw [if_neg (show ¬ (99 : Int32) < nI e from nI_nlt (b := e) (a := 99) (by omega) (by decide)), show rf 100 16 = 107 from rfl, show ln 107 = 100 from rfl, if_pos hb, if_pos hb, st_eq, st_eq, ix_nI (by omega), nI_1]
    unfold t0
    by_cases q : e = v0
    · rw [if_pos (by rw [q])]
      by_cases z : e < need
      · rw [if_pos (nI_lt z (by omega)), if_neg (by omega)]; rfl
      · rw [if_neg (nI_nlt (by omega) (by omega)), if_pos (by omega)]; rfl
    · rw [if_neg (nI_eqn (by omega) (by omega) q), if_neg (fun k => q k.1)]; rfl
theorem m_tears {b m need un : Nat} {g : Nat → Int32} {x : St} (hI : InvG g) (hV : MV x b g) (hw : gi x 100 13 = -1) (hm : m < ix (g 0)) (hn : need ≤ 99) (hd : ix (g 5) ≤ un) (hu : un ≤ 99) : ∃ y, ff_MO_tears_62 FU x 100 (nI m) (nI need) (nI un) (nI (GR g (-1) m (ix (g 5)))) 0 = some (TRF g m need un, y) ∧ onlyL [107, 108] x y := by
  have h5 := hI.1.2.2.2.2.2.1
  have h52 := h5.2
  have hG := GR_le (g := g) (w := -1) (hI.2.1 m hm).2.1.2 (ix (g 5))
  obtain ⟨y, y1, y2, y3⟩ := m_te62 hG hn (nI m) (nI un) 100 FU 0 x (by omega) (by unfold FU; omega) (fun i hi => by omega)
  have hV2 := MV_only hV y2 (by decide) (by decide)
  have hW : okW 0 (t0 (GR g (-1) m (ix (g 5))) need) := fun v _ => by unfold t0; split <;> omega
  obtain ⟨z, z1, z2, z3⟩ := m_te111 hI hm hn hu (un - ix (g 5)) FU (ix (g 5) + 1) 0 _ y (by omega) (by unfold FU; omega) hV2 (by rw [y2.1 _ _ (by decide)]; exact hw) hW (by omega) y3
  have hW2 : okW 1000 (tL g m need (ix (g 5) + 1) (un - ix (g 5)) (t0 (GR g (-1) m (ix (g 5))) need)) := fun v hv => by
    have := tL_ok (g := g) (m := m) (need := need) (un - ix (g 5)) (ix (g 5) + 1) 0 _ hW v hv
    omega
  refine ⟨z, ?_, onlyL_tr (onlyL_of y2 (by decide)) z2⟩
  have y1' : ff_MO_tears_62 FU x 100 (nI m) (nI need) (nI un) (nI (GR g (-1) m (ix (g 5)))) 0 = _ := y1
  rw [y1']
  unfold ff_MO_tears_102
  rw [show (5 : Int32) = nI 5 from rfl, m_getN hV2 (by decide) h5, bnd_some, nI_1, z1]
  have e3 : ff_MO_tears_292 FU z 100 9999 0 = ff_MO_tears_331 z (nI (TRn g m need un)) := m_mn hW2 z3 100 FU 0 9999 (by omega) (by unfold FU; omega) (by omega)
  unfold ff_MO_tears_284
  rw [e3]
  have h6 := mn_ok hW2 100 0 9999 (by omega) (Or.inl rfl)
  unfold ff_MO_tears_331 TRF
  by_cases z : TRn g m need un = 9999
  · rw [if_pos z, z, if_pos (by decide)]
  · have h7 : TRn g m need un ≤ 1000 := h6.resolve_left z
    rw [if_neg z, if_neg (show ¬ nI (TRn g m need un) = 9999 from nI_eqn (b := 9999) (by omega) (by decide) (by omega))]
