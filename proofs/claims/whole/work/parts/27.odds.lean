theorem c_od86 {x : St} {C : Nat → Nat} (h : rowL x 14 C) : ∀ (n N e a : Nat), e + n = 100 → n < N → ff_OU_chancesToHold_86 N x 9 (lN a) (nI e) = some (lN (suU C e n a), x) := by
  intro n
  induction n with
  | zero =>
    intro N e a he hN
    obtain ⟨N, rfl⟩ : ∃ K, N = K + 1 := ⟨N - 1, by omega⟩
    show (if (100 : Int32) ≤ nI e then _ else _) = _
    rw [if_pos (show (100 : Int32) ≤ nI e from nI_le (a := 100) (by omega) (by omega))]; rfl
  | succ n ih =>
    intro N e a he hN
    obtain ⟨N, rfl⟩ : ∃ K, N = K + 1 := ⟨N - 1, by omega⟩
    show (if (100 : Int32) ≤ nI e then _ else _) = _
    rw [if_neg (show ¬ (100 : Int32) ≤ nI e from nI_ge (b := 100) (by omega) (by decide)), show rf 9 4 = 14 from rfl, show ln 14 = 100 from rfl, if_pos (ixb_nI (by omega) (by omega)), lj_eq, ix_nI (by omega), h e (by omega), lN_add, nI_1, ih N (e + 1) _ (by omega) (by omega)]; rfl
theorem m_od281 {x : St} {C : Nat → Nat} (h : rowL x 110 C) (al : Int64) : ∀ (n N e a : Nat), e + n = 100 → n < N → ff_MO_odds_281 N x 100 al (lN a) (nI e) = ff_MO_odds_306 x 100 al (lN (suU C e n a)) := by
  intro n
  induction n with
  | zero =>
    intro N e a he hN
    obtain ⟨N, rfl⟩ : ∃ K, N = K + 1 := ⟨N - 1, by omega⟩
    show (if (99 : Int32) < nI e then _ else _) = _
    rw [if_pos (show (99 : Int32) < nI e from nI_lt (a := 99) (by omega) (by omega))]; rfl
  | succ n ih =>
    intro N e a he hN
    obtain ⟨N, rfl⟩ : ∃ K, N = K + 1 := ⟨N - 1, by omega⟩
    show (if (99 : Int32) < nI e then _ else _) = _
    rw [if_neg (show ¬ (99 : Int32) < nI e from nI_nlt (b := e) (a := 99) (by omega) (by decide)), show rf 100 19 = 110 from rfl, show ln 110 = 100 from rfl, if_pos (ixb_nI (by omega) (by omega)), lj_eq, ix_nI (by omega), h e (by omega), lN_add, nI_1, ih N (e + 1) _ (by omega) (by omega)]; rfl
theorem half_mod {b r : Nat} (h : r ≤ b) (h0 : 0 < r) : b % r ≤ b / 2 := by
  have h1 := Nat.mod_lt b h0
  have h2 : b % r ≤ b - r := by rw [Nat.mod_eq_sub_mod h]; exact Nat.mod_le _ _
  omega
theorem gcd_st {a b : Nat} : Nat.gcd a b = Nat.gcd b (a % b) := by rw [Nat.gcd_comm a b, Nat.gcd_rec b a, Nat.gcd_comm]
theorem c_gcd (x : St) : ∀ (k N i a b : Nat), b < 2 ^ k → i + 2 * k < 200 → 2 * k < N → a < 2 ^ 62 → b < 2 ^ 62 → ff_GG_commonDivisor_9 N x (lN a) (lN b) (nI i) = some (lN (Nat.gcd a b), x) := by
  intro k
  induction k with
  | zero =>
    intro N i a b hb hi hN ha hb2
    obtain ⟨N, rfl⟩ : ∃ K, N = K + 1 := ⟨N - 1, by omega⟩
    have : b = 0 := by omega
    subst this
    show (if (200 : Int32) ≤ nI i then _ else _) = _
    rw [if_neg (show ¬ (200 : Int32) ≤ nI i from nI_ge (b := 200) (by omega) (by decide)), if_pos (by decide), Nat.gcd_zero_right]
  | succ k ih =>
    intro N i a b hb hi hN ha hb2
    obtain ⟨N, rfl⟩ : ∃ K, N = K + 2 := ⟨N - 2, by omega⟩
    show (if (200 : Int32) ≤ nI i then _ else _) = _
    rw [if_neg (show ¬ (200 : Int32) ≤ nI i from nI_ge (b := 200) (by omega) (by decide))]
    by_cases q : b = 0
    · subst q
      rw [if_pos (by decide), Nat.gcd_zero_right]
    · have nz : ¬ lN b = 0 := fun z => q ((pk_lEQ (b := 0) (by omega) (by decide)).mp z)
      rw [if_neg (fun z => nz ((cmp0 _).mp z)), if_pos nz, pk_lRem (by omega) (by omega) (by omega), nI_1]
      show (if (200 : Int32) ≤ nI (i + 1) then _ else _) = _
      rw [if_neg (show ¬ (200 : Int32) ≤ nI (i + 1) from nI_ge (b := 200) (by omega) (by decide))]
      have hr := Nat.mod_lt a (show 0 < b by omega)
      by_cases q2 : a % b = 0
      · rw [q2, if_pos (by decide), gcd_st, q2, Nat.gcd_zero_right]
      · have nz2 : ¬ lN (a % b) = 0 := fun z => q2 ((pk_lEQ (b := 0) (by omega) (by decide)).mp z)
        have hh := half_mod (b := b) (r := a % b) (by omega) (by omega)
        rw [if_neg (fun z => nz2 ((cmp0 _).mp z)), if_pos nz2, pk_lRem (by omega) (by omega) (by omega), nI_1, ih N (i + 1 + 1) (a % b) (b % (a % b)) (by rw [Nat.pow_succ] at hb; omega) (by omega) (by omega) (by omega) (by omega), ← gcd_st, ← gcd_st]
theorem m_gcd (x : St) (al he : Int64) : ∀ (k N a b : Nat), b < 2 ^ k → 2 * k < N → a < 2 ^ 62 → b < 2 ^ 62 → ff_MO_odds_314 N x 100 al he (lN a) (lN b) = ff_MO_odds_339 x 100 al he (lN (Nat.gcd a b)) := by
  intro k
  induction k with
  | zero =>
    intro N a b hb hN ha hb2
    obtain ⟨N, rfl⟩ : ∃ K, N = K + 1 := ⟨N - 1, by omega⟩
    have : b = 0 := by omega
    subst this
    show (if lg_cmp (lN 0) 0 = 0 then _ else _) = _
    rw [if_pos (by decide), Nat.gcd_zero_right]
  | succ k ih =>
    intro N a b hb hN ha hb2
    obtain ⟨N, rfl⟩ : ∃ K, N = K + 2 := ⟨N - 2, by omega⟩
    show (if lg_cmp (lN b) 0 = 0 then _ else _) = _
    by_cases q : b = 0
    · subst q
      rw [if_pos (by decide), Nat.gcd_zero_right]
    · have nz : ¬ lN b = 0 := fun z => q ((pk_lEQ (b := 0) (by omega) (by decide)).mp z)
      rw [if_neg (fun z => nz ((cmp0 _).mp z)), if_pos nz, pk_lRem (by omega) (by omega) (by omega)]
      show (if lg_cmp (lN (a % b)) 0 = 0 then _ else _) = _
      have hr := Nat.mod_lt a (show 0 < b by omega)
      by_cases q2 : a % b = 0
      · rw [q2, if_pos (by decide), gcd_st, q2, Nat.gcd_zero_right]
      · have nz2 : ¬ lN (a % b) = 0 := fun z => q2 ((pk_lEQ (b := 0) (by omega) (by decide)).mp z)
        have hh := half_mod (b := b) (r := a % b) (by omega) (by omega)
        rw [if_neg (fun z => nz2 ((cmp0 _).mp z)), if_pos nz2, pk_lRem (by omega) (by omega) (by omega), ih N (a % b) (b % (a % b)) (by rw [Nat.pow_succ] at hb; omega) (by omega) (by omega) (by omega), ← gcd_st, ← gcd_st]
theorem c_tenL (x : St) {n : Nat} (hn : n ≤ 15) : ∀ (k N i : Nat), i + k = n → k < N → ff_GG_tenTo_4 N x (nI n) (lN (10 ^ i)) (nI i) = some (lN (10 ^ n), x) := by
  intro k
  induction k with
  | zero =>
    intro N i hi hN
    obtain ⟨N, rfl⟩ : ∃ K, N = K + 1 := ⟨N - 1, by omega⟩
    show (if nI n ≤ nI i then _ else _) = _
    rw [if_pos (nI_le (by omega) (by omega)), show i = n by omega]
  | succ k ih =>
    intro N i hi hN
    obtain ⟨N, rfl⟩ : ∃ K, N = K + 1 := ⟨N - 1, by omega⟩
    show (if nI n ≤ nI i then _ else _) = _
    rw [if_neg (nI_ge (by omega) (by omega)), show (lN (10 ^ i) * 10 : Int64) = lN (10 ^ (i + 1)) from by rw [Nat.pow_succ]; exact lN_mul (10 ^ i) 10, nI_1, ih N (i + 1) (by omega) (by omega)]
theorem c_tenTo (x : St) {n : Nat} (hn : n ≤ 15) : ff_GG_tenTo x (nI n) = some (lN (10 ^ n), x) := c_tenL x hn n FU 0 (by omega) (by unfold FU; omega)
theorem ten15 {n : Nat} (hn : n ≤ 15) : 10 ^ n ≤ 10 ^ 15 := Nat.pow_le_pow_right (by decide) hn
theorem c_od41 {m need n wed : Nat} {g : Nat → Int32} (hI : InvG g) (hm : m < ix (g 0)) (hw : wed ≤ 10) (hd : ix (g 5) + n ≤ 99) : ∀ (k N i : Nat) (C : Nat → Nat) (x : St), i + k = n + 1 → k < N → 1 ≤ i → RL x 16 g → Sm C 100 * 10 ^ k < 2 ^ 60 → rowL x 14 C →
    ∃ y, ff_OU_chancesToHold_41 N x 9 16 (nI m) (nI need) (nI n) (nI wed) (nI i) = ff_OU_chancesToHold_76 y 9 (nI need) ∧ onlyL [11, 14, 15] x y ∧ rowL y 14 (oL g m wed (ix (g 5) + i) k C) := by
  have h5 := hI.1.2.2.2.2.2.1
  intro k
  induction k with
  | zero =>
    intro N i C x hi hN h1 h hC hr
    obtain ⟨N, rfl⟩ : ∃ K, N = K + 1 := ⟨N - 1, by omega⟩
    refine ⟨x, ?_, onlyL_rf, hr⟩
    show (if nI n < nI i then _ else _) = _
    rw [if_pos (nI_lt (by omega) (by omega))]
  | succ k ih =>
    intro N i C x hi hN h1 h hC hr
    obtain ⟨N, rfl⟩ : ∃ K, N = K + 1 := ⟨N - 1, by omega⟩
    have hC1 : Sm C 100 < 2 ^ 60 := Nat.lt_of_le_of_lt (Nat.le_mul_of_pos_right _ (Nat.pow_pos (by decide))) hC
    have hday : gi x 16 9 = nI (ix (g 5)) := by rw [h.2.1.2.2.2.2.2.1]; exact h5.1
    obtain ⟨y, y1, y2, y3⟩ := c_fillNext (d := ix (g 5) + i) hI h hm (by omega)
    have oy : onlyL [11, 14, 15] x y := onlyL_of y2 (by decide)
    obtain ⟨z, z1, z2, z3⟩ := c_wed (D := fun v => dayN g (-1) m v (ix (g 5) + i)) hC1 (fun v hv => dayN_le (by omega)) hw y y3 (fun e he => by rw [y2.2]; exact hr e he)
    have oz : onlyL [11, 14, 15] y z := ⟨fun a k ha => z2.1 a k (fun e => ha (List.mem_cons_of_mem _ e)), fun a k ha => z2.2 a k (fun e => ha (List.mem_cons_of_mem _ e))⟩
    have hz : RL z 16 g := RL_onL h (onlyL_tr oy oz) (fun a ha => by simp only [List.mem_cons, List.not_mem_nil, or_false] at ha; omega)
    obtain ⟨w, w1, w2, w3⟩ := ih N (i + 1) _ z (by omega) (by omega) (by omega) hz (by
      rw [oD_sm (fun v hv => dayN_le (by omega)) hw, Nat.mul_comm 10, Nat.mul_assoc, Nat.mul_comm 10, ← Nat.pow_succ]; exact hC) z3
    refine ⟨w, ?_, onlyL_tr (onlyL_tr oy oz) w2, w3⟩
    rw [← w1]
    show (if nI n < nI i then _ else _) = _
    rw [if_neg (nI_nlt (by omega) (by omega)), show rf 9 1 = 11 from rfl, hday, nI_add, y1, bnd_some, z1, bnd_some, nI_1]
theorem c_chances {x : St} {m need n wed : Nat} {g : Nat → Int32} (hI : InvG g) (h : RS x 16 g) (hm : m < ix (g 0)) (hn : need ≤ 99) (hn2 : n ≤ 15) (hw : wed ≤ 10) (hd : ix (g 5) + n ≤ 99) : ∃ y, ff_OU_chancesToHold x 9 16 (nI m) (nI need) (nI n) (nI wed) = some (lN (hldN g m need n wed), y) ∧ onlyL [11, 14, 15] x y := by
  have h5 := hI.1.2.2.2.2.2.1
  have h52 := h5.2
  have hG := GR_le (g := g) (w := -1) (hI.2.1 m hm).2.1.2 (ix (g 5))
  have hday : gi x 16 9 = nI (ix (g 5)) := by rw [h.1.2.1.2.2.2.2.2.1]; exact h5.1
  obtain ⟨y, y1, y2, y3⟩ := c_fillJ (x := x) (q := 14) (v := 0) (by decide)
  have oy : onlyL [11, 14, 15] x (sl y 14 (GR g (-1) m (ix (g 5))) 1) := onlyL_tr ⟨fun a k ha => y2.1 a k (fun e => ha (by rw [List.mem_singleton.mp e]; decide)), fun a k ha => y2.2 a k (fun e => ha (by rw [List.mem_singleton.mp e]; decide))⟩ (onlyL_sl _ _ _ (by decide))
  have hin : ∀ a, a ∈ [11, 14, 15] → a < 16 ∨ 16 + 20 ≤ a := fun a ha => by simp only [List.mem_cons, List.not_mem_nil, or_false] at ha; omega
  have h0 : Sm (o0 (GR g (-1) m (ix (g 5)))) 100 = 1 := by rw [o0_sm, if_pos (by omega)]
  obtain ⟨z, z1, z2, z3⟩ := c_od41 (need := need) hI hm hw hd n FU 1 (o0 (GR g (-1) m (ix (g 5)))) _ (by omega) (by unfold FU; omega) (by omega) (RL_onL h.1 oy hin) (by have := ten15 hn2; rw [h0]; omega) (fun e he => by
    unfold o0
    rw [gl_sl]
    by_cases q : e = GR g (-1) m (ix (g 5))
    · rw [if_pos ⟨rfl, q⟩, if_pos q]; rfl
    · rw [if_neg (fun k => q k.2), if_neg q]; exact y3 e he)
  refine ⟨z, ?_, onlyL_tr oy z2⟩
  unfold ff_OU_chancesToHold
  have z1' : ff_OU_chancesToHold_41 FU (sl y 14 (GR g (-1) m (ix (g 5))) 1) 9 16 (nI m) (nI need) (nI n) (nI wed) 1 = _ := z1
  rw [hday, c_griefOn (Or.inl rfl) hI h hm (by omega), bnd_some, show rf 9 4 = 14 from rfl, y1, bnd_some, p_within, bnd_some, show wn (nI (GR g (-1) m (ix (g 5)))) 0 99 = 1 from wn_yes (a := 0) (b := 99) (by omega) (by omega) (by decide), if_neg (by decide), show ln 14 = 100 from rfl, if_pos (ixb_nI (by omega) (by omega)), st_eq, ix_nI (by omega), z1']
  unfold ff_OU_chancesToHold_76
  rw [show imax (nI need) 0 = nI need from by rw [show (0 : Int32) = nI 0 from rfl, imax_nI (by omega) (by decide), Nat.max_eq_left (by omega)]]
  exact c_od86 z3 (100 - need) FU need 0 (by omega) (by unfold FU; omega)
