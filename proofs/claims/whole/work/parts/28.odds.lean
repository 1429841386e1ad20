theorem m_od160 {b wed m d : Nat} {g : Nat → Int32} {C : Nat → Nat} (hI : InvG g) (hm : m < ix (g 0)) (hd : d ≤ 99) (hw : wed ≤ 10) (need n : Int32) (al : Int64) (K : St → Nat → Int32 → Int32 → Int32 → Int32 → Int64 → Int32 → Option (Int32 × St)) : ∀ (k N v : Nat) (T : Nat → Nat) (x : St), v + k = 100 → k < N → MV x b g → gi x 100 13 = -1 → rowL x 110 C → rowL x 111 T →
    ∃ y, ff_MO_odds_160 K N x 100 (nI m) need n (nI wed) al (nI d) (nI v) = ff_MO_odds_234 K FU y 100 (nI m) need n (nI wed) al (nI d) 0 ∧ onlyL [111] x y ∧ rowL y 111 (oV (fun v => dayN g (-1) m v d) wed C v k T) := by
  have hM2 := hI.1.1.2
  intro k
  induction k with
  | zero =>
    intro N v T x hv hN hV hw' h2 h3
    obtain ⟨N, rfl⟩ : ∃ K, N = K + 1 := ⟨N - 1, by omega⟩
    refine ⟨x, ?_, onlyL_rf, h3⟩
    show (if (99 : Int32) < nI v then _ else _) = _
    rw [if_pos (show (99 : Int32) < nI v from nI_lt (a := 99) (by omega) (by omega))]
  | succ k ih =>
    intro N v T x hv hN hV hw' h2 h3
    obtain ⟨N, rfl⟩ : ∃ K, N = K + 1 := ⟨N - 1, by omega⟩
    have hD : dayN g (-1) m v d ≤ 99 := dayN_le (by omega)
    have hb : ixb (nI v) 100 = true := ixb_nI (by omega) (by omega)
    have hb1 : ixb (nI (dayN g (-1) m v d)) 100 = true := ixb_nI (by omega) (by omega)
    have hb2 : ixb (nI (dayN g (-1) m v d / 2)) 100 = true := ixb_nI (by omega) (by omega)
    show ∃ y, (if (99 : Int32) < nI v then _ else _) = _ ∧ onlyL [111] x y ∧ rowL y 111 (oV (fun v => dayN g (-1) m v d) wed C (v + 1) k (oS (fun v => dayN g (-1) m v d) wed C v T))
    rw [if_neg (show ¬ (99 : Int32) < nI v from nI_nlt (b := v) (a := 99) (by omega) (by decide)), m_onDay hV hI.1.2.2.2.1 (fun i hi => (hI.2.2.2.2.1 i hi).1) (hI.2.1 m hm).1 hw' (by omega) hd (by omega), bnd_some, show rf 100 19 = 110 from rfl, show rf 100 20 = 111 from rfl, show ln 110 = 100 from rfl, show ln 111 = 100 from rfl, if_pos hb1, if_pos hb, if_pos hb1, st_eq, half_nI (by omega), if_pos hb2, if_pos hb, if_pos hb2, st_eq, ix_nI (n := v) (by omega), ix_nI (n := dayN g (-1) m v d) (by omega), ix_nI (n := dayN g (-1) m v d / 2) (by omega), ten_sub hw, nI_l (by omega), h2 v (by omega), h3 _ (by omega), lN_mul, lN_add, nI_1]
    have h4 := rowL_up (u := dayN g (-1) m v d) (k := T (dayN g (-1) m v d) + C v * (10 - wed)) h3
    have h5 : gl (sl x 111 (dayN g (-1) m v d) (lN (T (dayN g (-1) m v d) + C v * (10 - wed)))) 110 v = lN (C v) := by rw [gl_sl, if_neg (by omega)]; exact h2 v (by omega)
    rw [h5, h4 _ (by omega), lN_mul, lN_add]
    have h6 := rowL_up (u := dayN g (-1) m v d / 2) (k := upN T (dayN g (-1) m v d) (T (dayN g (-1) m v d) + C v * (10 - wed)) (dayN g (-1) m v d / 2) + C v * wed) h4
    have hon : onlyL [111] x (sl (sl x 111 (dayN g (-1) m v d) (lN (T (dayN g (-1) m v d) + C v * (10 - wed)))) 111 (dayN g (-1) m v d / 2) (lN (upN T (dayN g (-1) m v d) (T (dayN g (-1) m v d) + C v * (10 - wed)) (dayN g (-1) m v d / 2) + C v * wed))) := onlyL_tr (onlyL_sl _ _ _ (by decide)) (onlyL_sl _ _ _ (by decide))
    obtain ⟨y, y1, y2, y3⟩ := ih N (v + 1) _ _ (by omega) (by omega) (MV_onL hV hon (by decide) (by decide)) (by rw [hon.1 _ _ (by decide)]; exact hw') (rowL_on h2 hon (by decide)) h6
    exact ⟨y, y1, onlyL_tr hon y2, y3⟩
theorem m_od234 (m need n wed d : Int32) (al : Int64) (K : St → Nat → Int32 → Int32 → Int32 → Int32 → Int64 → Int32 → Option (Int32 × St)) (T : Nat → Nat) : ∀ (k N e : Nat) (x : St), e + k = 100 → k < N → rowL x 111 T → (∀ i, i < e → gl x 110 i = lN (T i)) →
    ∃ y, ff_MO_odds_234 K N x 100 m need n wed al d (nI e) = K y 100 m need n wed (al * 10) (d + 1) ∧ onlyL [110] x y ∧ rowL y 110 T := by
  intro k
  induction k with
  | zero =>
    intro N e x he hN h1 h2
    obtain ⟨N, rfl⟩ : ∃ K, N = K + 1 := ⟨N - 1, by omega⟩
    refine ⟨x, ?_, onlyL_rf, fun i hi => h2 i (by omega)⟩
    show (if (99 : Int32) < nI e then _ else _) = _
    rw [if_pos (show (99 : Int32) < nI e from nI_lt (a := 99) (by omega) (by omega))]; rfl
  | succ k ih =>
    intro N e x he hN h1 h2
    obtain ⟨N, rfl⟩ : ∃ K, N = K + 1 := ⟨N - 1, by omega⟩
    have hon : onlyL [110] x (sl x 110 e (lN (T e))) := onlyL_sl _ _ _ (by decide)
    obtain ⟨y, y1, y2, y3⟩ := ih N (e + 1) (sl x 110 e (lN (T e))) (by omega) (by omega) (rowL_on h1 hon (by decide)) (fun i hi => by
      rw [gl_sl]
      by_cases q : i = e
      · rw [if_pos ⟨rfl, q⟩, q]
      · rw [if_neg (fun z => q z.2)]; exact h2 i (by omega))
    refine ⟨y, ?_, onlyL_tr hon y2, y3⟩
    rw [← y1]
    show (if (99 : Int32) < nI e then _ else _) = _
    rw [if_neg (show ¬ (99 : Int32) < nI e from nI_nlt (b := e) (a := 99) (by omega) (by decide)), show rf 100 19 = 110 from rfl, show rf 100 20 = 111 from rfl, show ln 110 = 100 from rfl, show ln 111 = 100 from rfl, if_pos (ixb_nI (by omega) (by omega)), if_pos (ixb_nI (by omega) (by omega)), st_eq, ix_nI (by omega), h1 e (by omega), nI_1]
theorem m_od136 (m need n wed d : Int32) (al : Int64) (K : St → Nat → Int32 → Int32 → Int32 → Int32 → Int64 → Int32 → Option (Int32 × St)) : ∀ (k N e : Nat) (x : St), e + k = 100 → k < N → (∀ i, i < e → gl x 111 i = lN 0) →
    ∃ y, ff_MO_odds_136 K N x 100 m need n wed al d (nI e) = ff_MO_odds_160 K FU y 100 m need n wed al d (nI 0) ∧ onlyL [111] x y ∧ rowL y 111 (fun _ => 0) := by
  intro k
  induction k with
  | zero =>
    intro N e x he hN h2
    obtain ⟨N, rfl⟩ : ∃ K, N = K + 1 := ⟨N - 1, by omega⟩
    refine ⟨x, ?_, onlyL_rf, fun i hi => h2 i (by omega)⟩
    show (if (99 : Int32) < nI e then _ else _) = _
    rw [if_pos (show (99 : Int32) < nI e from nI_lt (a := 99) (by omega) (by omega))]; rfl
  | succ k ih =>
    intro N e x he hN h2
    obtain ⟨N, rfl⟩ : ∃ K, N = K + 1 := ⟨N - 1, by omega⟩
    have hon : onlyL [111] x (sl x 111 e (lN 0)) := onlyL_sl _ _ _ (by decide)
    obtain ⟨y, y1, y2, y3⟩ := ih N (e + 1) (sl x 111 e (lN 0)) (by omega) (by omega) (fun i hi => by
      rw [gl_sl]
      by_cases q : i = e
      · rw [if_pos ⟨rfl, q⟩]
      · rw [if_neg (fun z => q z.2)]; exact h2 i (by omega))
    refine ⟨y, ?_, onlyL_tr hon y2, y3⟩
    rw [← y1]
    show (if (99 : Int32) < nI e then _ else _) = _
    rw [if_neg (show ¬ (99 : Int32) < nI e from nI_nlt (b := e) (a := 99) (by omega) (by decide)), show rf 100 20 = 111 from rfl, show ln 111 = 100 from rfl, if_pos (ixb_nI (by omega) (by omega)), st_eq, ix_nI (by omega), nI_1]; rfl
theorem m_od121 {b m n wed : Nat} {g : Nat → Int32} (hI : InvG g) (hm : m < ix (g 0)) (hw : wed ≤ 10) (hd : ix (g 5) + n ≤ 99) (need : Int32) : ∀ (k N d a : Nat) (C : Nat → Nat) (x : St), d + k = ix (g 5) + n + 1 → k < N → MV x b g → gi x 100 13 = -1 → rowL x 110 C →
    ∃ y, ff_MO_odds_121 N x 100 (nI m) need (nI n) (nI wed) (lN a) (nI d) = ff_MO_odds_275 y 100 need (lN (a * 10 ^ k)) ∧ onlyL [110, 111] x y ∧ rowL y 110 (oL g m wed d k C) := by
  have h5 := hI.1.2.2.2.2.2.1
  intro k
  induction k with
  | zero =>
    intro N d a C x hi hN hV h13 hr
    obtain ⟨N, rfl⟩ : ∃ K, N = K + 1 := ⟨N - 1, by omega⟩
    refine ⟨x, ?_, onlyL_rf, hr⟩
    show bnd (ff_MO_get x 100 (nI 5)) _ = _
    rw [m_getN hV (by decide) h5, bnd_some, nI_add, if_pos (nI_lt (by omega) (by omega)), show a * 10 ^ 0 = a by omega]
  | succ k ih =>
    intro N d a C x hi hN hV h13 hr
    obtain ⟨N, rfl⟩ : ∃ K, N = K + 1 := ⟨N - 1, by omega⟩
    have sub : ∀ {q : Nat} {u v : St}, q ∈ [110, 111] → onlyL [q] u v → onlyL [110, 111] u v := fun hq h => ⟨fun a k ha => h.1 a k (fun e => ha (by rw [List.mem_singleton.mp e]; exact hq)), fun a k ha => h.2 a k (fun e => ha (by rw [List.mem_singleton.mp e]; exact hq))⟩
    obtain ⟨y, y1, y2, y3⟩ := m_od136 (nI m) need (nI n) (nI wed) (nI d) (lN a) (ff_MO_odds_121 N) 100 FU 0 x (by omega) (by unfold FU; omega) (fun i hi => by omega)
    obtain ⟨z, z1, z2, z3⟩ := m_od160 (b := b) (C := C) (d := d) hI hm (by omega) hw need (nI n) (lN a) (ff_MO_odds_121 N) 100 FU 0 (fun _ => 0) y (by omega) (by unfold FU; omega) (MV_onL hV y2 (by decide) (by decide)) (by rw [y2.1 _ _ (by decide)]; exact h13) (rowL_on hr y2 (by decide)) y3
    obtain ⟨w, w1, w2, w3⟩ := m_od234 (nI m) need (nI n) (nI wed) (nI d) (lN a) (ff_MO_odds_121 N) _ 100 FU 0 z (by omega) (by unfold FU; omega) z3 (fun i hi => by omega)
    have ho : onlyL [110, 111] x w := onlyL_tr (sub (by decide) y2) (onlyL_tr (sub (by decide) z2) (sub (by decide) w2))
    obtain ⟨v, v1, v2, v3⟩ := ih N (d + 1) (a * 10) _ w (by omega) (by omega) (MV_onL hV ho (by decide) (by decide)) (by rw [ho.1 _ _ (by decide)]; exact h13) w3
    refine ⟨v, ?_, onlyL_tr ho v2, v3⟩
    rw [show a * 10 ^ (k + 1) = a * 10 * 10 ^ k from by rw [Nat.pow_succ, Nat.mul_assoc, Nat.mul_comm 10], ← v1, show lN (a * 10) = lN a * 10 from (lN_mul a 10).symm, ← nI_1, ← w1]
    show _ = ff_MO_odds_234 (ff_MO_odds_121 N) FU z 100 (nI m) need (nI n) (nI wed) (lN a) (nI d) 0
    rw [← z1, ← y1]
    show bnd (ff_MO_get x 100 (nI 5)) _ = _
    rw [m_getN hV (by decide) h5, bnd_some, nI_add, if_neg (nI_nlt (by omega) (by omega))]; rfl
theorem m_od64 {b m : Nat} {g : Nat → Int32} (hI : InvG g) (hm : m < ix (g 0)) (need n wed : Int32) : ∀ (k N e : Nat) (x : St), e + k = 100 → k < N → MV x b g → GF g (-1) x → (∀ i, i < e → gl x 110 i = lN (o0 (GR g (-1) m (ix (g 5))) i)) →
    ∃ y, ff_MO_odds_64 N x 100 (nI m) need n wed (nI e) = ff_MO_odds_109 y 100 (nI m) need n wed ∧ onlyL [110] x y ∧ rowL y 110 (o0 (GR g (-1) m (ix (g 5)))) := by
  have h5 := hI.1.2.2.2.2.2.1
  have h52 := h5.2
  have hM2 := hI.1.1.2
  have hG := GR_le (g := g) (w := -1) (hI.2.1 m hm).2.1.2 (ix (g 5))
  intro k
  induction k with
  | zero =>
    intro N e x he hN hV hF h2
    obtain ⟨N, rfl⟩ : ∃ K, N = K + 1 := ⟨N - 1, by omega⟩
    refine ⟨x, ?_, onlyL_rf, fun i hi => h2 i (by omega)⟩
    show (if (99 : Int32) < nI e then _ else _) = _
    rw [if_pos (show (99 : Int32) < nI e from nI_lt (a := 99) (by omega) (by omega))]
  | succ k ih =>
    intro N e x he hN hV hF h2
    obtain ⟨N, rfl⟩ : ∃ K, N = K + 1 := ⟨N - 1, by omega⟩
    have hon : onlyL [110] x (sl x 110 e (lN (o0 (GR g (-1) m (ix (g 5))) e))) := onlyL_sl _ _ _ (by decide)
    obtain ⟨y, y1, y2, y3⟩ := ih N (e + 1) (sl x 110 e (lN (o0 (GR g (-1) m (ix (g 5))) e))) (by omega) (by omega) (MV_onL hV hon (by decide) (by decide)) (fun m hm d hd => hF m hm d hd) (fun i hi => by
      rw [gl_sl]
      by_cases q : i = e
      · rw [if_pos ⟨rfl, q⟩, q]
      · rw [if_neg (fun z => q z.2)]; exact h2 i (by omega))
    refine ⟨y, ?_, onlyL_tr hon y2, y3⟩
    rw [← y1]
    have hb : ixb (nI e) 100 = true := ixb_nI (by omega) (by omega)
    show (if (99 : Int32) < nI e then _ else _) = _
    rw [if_neg (show ¬ (99 : Int32) < nI e from nI_nlt (b := e) (a := 99) (by omega) (by decide)), show (5 : Int32) = nI 5 from rfl, m_getN hV (by decide) h5, bnd_some, show (100 * nI m + nI (ix (g 5)) : Int32) = nI (100 * m + ix (g 5)) from by rw [show (100 : Int32) = nI 100 from rfl, pk_mul, nI_add], show rf 100 14 = 105 from rfl, show ln 105 = 600 from rfl, if_pos (ixb_nI (by omega) (by omega)), ix_nI (n := 100 * m + ix (g 5)) (by omega), hF m hm _ (by omega), show rf 100 19 = 110 from rfl, show ln 110 = 100 from rfl, if_pos hb, if_pos hb, st_eq, st_eq, ix_nI (by omega), nI_1]
    unfold o0
    by_cases q : e = GR g (-1) m (ix (g 5))
    · rw [if_pos (by rw [q]), if_pos q]; rfl
    · rw [if_neg (nI_eqn (by omega) (by omega) q), if_neg q]; rfl
/-- what odds leave: the two numbers, without their greatest common divisor -/
def odA (g : Nat → Int32) (m need n wed : Nat) : Int64 := lN (hldN g m need n wed / Nat.gcd (hldN g m need n wed) (10 ^ n))
def odB (g : Nat → Int32) (m need n wed : Nat) : Int64 := lN (10 ^ n / Nat.gcd (hldN g m need n wed) (10 ^ n))
theorem m_odds {b m need n wed : Nat} {g : Nat → Int32} {x : St} (hI : InvG g) (hV : MV x b g) (hF : GF g (-1) x) (h13 : gi x 100 13 = -1) (hm : m < ix (g 0)) (hn : need ≤ 99) (hn2 : n ≤ 15) (hw : wed ≤ 10) (hd : ix (g 5) + n ≤ 99) : ∃ y, ff_MO_odds_64 FU x 100 (nI m) (nI need) (nI n) (nI wed) 0 = some (1, sl (sl y 100 4 (odA g m need n wed)) 100 5 (odB g m need n wed)) ∧ onlyL [110, 111] x y := by
  have h5 := hI.1.2.2.2.2.2.1
  obtain ⟨y, y1, y2, y3⟩ := m_od64 hI hm (nI need) (nI n) (nI wed) 100 FU 0 x (by omega) (by unfold FU; omega) hV hF (fun i hi => by omega)
  have hV2 := MV_onL hV y2 (by decide) (by decide)
  obtain ⟨z, z1, z2, z3⟩ := m_od121 hI hm hw hd (nI need) n FU (ix (g 5) + 1) 1 _ y (by omega) (by unfold FU; omega) hV2 (by rw [y2.1 _ _ (by decide)]; exact h13) y3
  have hh := hld_le (g := g) (m := m) (n := n) hw hn
  have h15 := ten15 hn2
  have hp : 0 < 10 ^ n := Nat.pow_pos (by decide)
  have hg : 0 < Nat.gcd (hldN g m need n wed) (10 ^ n) := Nat.gcd_pos_of_pos_right _ hp
  have hg2 : Nat.gcd (hldN g m need n wed) (10 ^ n) ≤ 10 ^ n := Nat.gcd_le_right _ hp
  have nz : ¬ lN (Nat.gcd (hldN g m need n wed) (10 ^ n)) = 0 := fun q => by
    have := (pk_lEQ (b := 0) (by omega) (by decide)).mp q
    omega
  refine ⟨z, ?_, onlyL_tr ⟨fun a k ha => y2.1 a k (fun e => ha (by rw [List.mem_singleton.mp e]; decide)), fun a k ha => y2.2 a k (fun e => ha (by rw [List.mem_singleton.mp e]; decide))⟩ z2⟩
  have y1' : ff_MO_odds_64 FU x 100 (nI m) (nI need) (nI n) (nI wed) 0 = _ := y1
  rw [y1']
  unfold ff_MO_odds_109
  rw [show (5 : Int32) = nI 5 from rfl, m_getN hV2 (by decide) h5, bnd_some, nI_1]
  have z1' : ff_MO_odds_121 FU y 100 (nI m) (nI need) (nI n) (nI wed) 1 (nI (ix (g 5) + 1)) = _ := z1
  rw [z1', Nat.one_mul]
  have e3 : ff_MO_odds_281 FU z 100 (lN (10 ^ n)) 0 (nI need) = ff_MO_odds_306 z 100 (lN (10 ^ n)) (lN (hldN g m need n wed)) := m_od281 z3 (lN (10 ^ n)) (100 - need) FU need 0 (by omega) (by unfold FU; omega)
  unfold ff_MO_odds_275
  rw [e3]
  unfold ff_MO_odds_306
  rw [m_gcd z (lN (10 ^ n)) (lN (hldN g m need n wed)) 50 FU (hldN g m need n wed) (10 ^ n) (by omega) (by unfold FU; omega) (by omega) (by omega)]
  unfold ff_MO_odds_339
  rw [if_pos nz, st_eq, if_pos nz, st_eq, pk_lDiv (by omega) hg (by omega), pk_lDiv (by omega) hg (by omega)]; rfl
theorem c_odEnd {m need n wed : Nat} {g : Nat → Int32} (x : St) (hn : need ≤ 99) (hn2 : n ≤ 15) (hw : wed ≤ 10) : bnd (ff_GG_tenTo x (nI n)) (fun r_30 x_31 => bnd (ff_GG_commonDivisor x_31 (lN (hldN g m need n wed)) r_30) (fun r_33 x_34 => (if (lg_cmp r_33 0) ≤ 0 then some ((1 : Int32), x_34) else (if ¬ r_33 = 0 then st (sl x_34 0 6 ((lN (hldN g m need n wed)) / r_33)) (fun x_38 => (if ¬ r_33 = 0 then st (sl x_38 0 7 (r_30 / r_33)) (fun x_40 => some (1, x_40)) else none)) else none)))) = some (1, sl (sl x 0 6 (odA g m need n wed)) 0 7 (odB g m need n wed)) := by
  have hh := hld_le (g := g) (m := m) (n := n) hw hn
  have h15 := ten15 hn2
  have hp : 0 < 10 ^ n := Nat.pow_pos (by decide)
  have hg : 0 < Nat.gcd (hldN g m need n wed) (10 ^ n) := Nat.gcd_pos_of_pos_right _ hp
  have hg2 : Nat.gcd (hldN g m need n wed) (10 ^ n) ≤ 10 ^ n := Nat.gcd_le_right _ hp
  have nz : ¬ lN (Nat.gcd (hldN g m need n wed) (10 ^ n)) = 0 := fun q => by
    have := (pk_lEQ (b := 0) (by omega) (by decide)).mp q
    omega
  have gt : lN (Nat.gcd (hldN g m need n wed) (10 ^ n)) > 0 := (pk_lLT (a := 0) (by decide) (by omega)).mpr hg
  have e1 : lg_cmp (lN (Nat.gcd (hldN g m need n wed) (10 ^ n))) 0 = 1 := by unfold lg_cmp; rw [if_pos gt]
  have e2 : ff_GG_commonDivisor x (lN (hldN g m need n wed)) (lN (10 ^ n)) = some (lN (Nat.gcd (hldN g m need n wed) (10 ^ n)), x) := c_gcd x 50 FU 0 _ _ (by omega) (by omega) (by unfold FU; omega) (by omega) (by omega)
  rw [c_tenTo x hn2, bnd_some, e2, bnd_some, e1, if_neg (by decide), if_pos nz, st_eq, if_pos nz, st_eq, pk_lDiv (by omega) hg (by omega), pk_lDiv (by omega) hg (by omega)]; rfl
