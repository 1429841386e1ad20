/-! what is likely, by the facts -/
theorem fw_s (f : Nat → Nat) (load d n : Nat) : fw f load d (n + 1) = if load ≤ f d then fw f load (d + 1) n else d := rfl
def LKV (k v : Nat) : Nat → Nat
  | 0 => v
  | d + 1 => stepN k (LKV k v d) (d + 1)
theorem LKV_le {k v : Nat} (h : v ≤ 99) : ∀ d, LKV k v d ≤ 99
  | 0 => h
  | d + 1 => Nat.le_trans (stepN_le _ _ _) (LKV_le h d)
def lkc (g : Nat → Int32) (k v i : Nat) : Bool := decide (fw (LKV k v) (ix (g (87 + 3 * i))) (ix (g (88 + 3 * i))) (100 - ix (g (88 + 3 * i))) = ix (g (89 + 3 * i)))
def lkB (g : Nat → Int32) (k v : Nat) : Bool := allU (lkc g k v) 0 (ix (g 4))
theorem c_byL {x : St} {k v : Nat} {g : Nat → Int32} (hI : InvG g) (h : RL x 16 g) (hv : v ≤ 99) (hr : ∀ e, e < 100 → gi x 10 e = nI (LKV k v e)) : ∀ (n N i : Nat), i + n = ix (g 4) → n < N → ff_OU_isByFacts_49 N x 9 (rf 16 4) (nI i) = some (b32 (allU (lkc g k v) i n), x) := by
  have hs : sp 16 := Or.inl rfl
  have hF := hI.1.2.2.2.2.1
  have hF2 := hF.2
  have hz : gi x (rf 16 4) 3 = nI (ix (g 4)) := by rw [(sp_rf hs).2.2.2.2.1, h.2.1.2.2.2.2.1]; exact hF.1
  have hst : stF (LKV k v) x (rf 9 0) none := ⟨by decide, fun e _ => LKV_le hv e, Or.inl ⟨rfl, hr⟩⟩
  intro n
  induction n with
  | zero =>
    intro N i hi hN
    obtain ⟨N, rfl⟩ : ∃ K, N = K + 1 := ⟨N - 1, by omega⟩
    show (if gi x (rf 16 4) 3 ≤ nI i then _ else _) = _
    rw [hz, if_pos (nI_le (by omega) (by omega))]; rfl
  | succ n ih =>
    intro N i hi hN
    obtain ⟨N, rfl⟩ : ∃ K, N = K + 1 := ⟨N - 1, by omega⟩
    obtain ⟨r0, r1, r2, r3⟩ := hI.2.2.2.2.2.1 i (by omega)
    have e0 := at_fa hs hI h (i := i) (c := 0) (by omega) (by decide)
    have e1 := at_fa hs hI h (i := i) (c := 1) (by omega) (by decide)
    have e2 := at_fa hs hI h (i := i) (c := 2) (by omega) (by decide)
    have r12 := r1.2
    have r22 := r2.2
    rw [Nat.add_zero, r0.1] at e0
    rw [show 87 + 3 * i + 1 = 88 + 3 * i by omega, r1.1] at e1
    rw [show 87 + 3 * i + 2 = 89 + 3 * i by omega, r2.1] at e2
    have e3 := c_fw (d := ix (g (88 + 3 * i))) (en := 99) hst r0.2 (by omega) (by omega)
    have hfw := fw_le (LKV k v) (ix (g (87 + 3 * i))) (99 + 1 - ix (g (88 + 3 * i))) (ix (g (88 + 3 * i)))
    show (if gi x (rf 16 4) 3 ≤ nI i then _ else _) = _
    rw [hz, if_neg (nI_ge (by omega) (by omega)), show (0 : Int32) = nI 0 from rfl, e0, bnd_some, show (1 : Int32) = nI 1 from rfl, e1, bnd_some, show (99 : Int32) = nI 99 from rfl, e3, bnd_some, show (2 : Int32) = nI 2 from rfl, e2, bnd_some]
    show _ = some (b32 (lkc g k v i && allU (lkc g k v) (i + 1) n), x)
    by_cases q : fw (LKV k v) (ix (g (87 + 3 * i))) (ix (g (88 + 3 * i))) (99 + 1 - ix (g (88 + 3 * i))) = ix (g (89 + 3 * i))
    · have : lkc g k v i = true := by unfold lkc; rw [decide_eq_true_eq]; exact q
      rw [q, if_pos rfl, this, Bool.true_and, nI_add]
      exact ih N (i + 1) (by omega) (by omega)
    · have : lkc g k v i = false := by unfold lkc; rw [decide_eq_false_iff_not]; exact q
      rw [if_neg (nI_eqn (by omega) (by omega) q), this]; rfl
theorem c_by14 {k v : Nat} {g : Nat → Int32} (hI : InvG g) (hk : k ≤ 5) (hv : v ≤ 99) : ∀ (n N d : Nat) (x : St), d + n = 100 → n < N → 1 ≤ d → RL x 16 g → (∀ e, e < d → gi x 10 e = nI (LKV k v e)) →
    ∃ y, ff_OU_isByFacts_14 N x 9 (rf 16 4) (nI k) (nI (LKV k v (d - 1))) (nI d) = some (b32 (lkB g k v), y) ∧ only 10 x y := by
  have hF2 := hI.1.2.2.2.2.1.2
  intro n
  induction n with
  | zero =>
    intro N d x hd hN h1 h hr
    obtain ⟨N, rfl⟩ : ∃ K, N = K + 1 := ⟨N - 1, by omega⟩
    refine ⟨x, ?_, only_rf⟩
    show (if (100 : Int32) ≤ nI d then _ else _) = _
    rw [if_pos (show (100 : Int32) ≤ nI d from nI_le (a := 100) (by omega) (by omega))]
    exact c_byL hI h hv (fun e he => hr e (by omega)) (ix (g 4)) FU 0 (by omega) (by unfold FU; omega)
  | succ n ih =>
    intro N d x hd hN h1 h hr
    obtain ⟨N, rfl⟩ : ∃ K, N = K + 1 := ⟨N - 1, by omega⟩
    obtain ⟨d', rfl⟩ : ∃ k, d = k + 1 := ⟨d - 1, by omega⟩
    have hle := LKV_le (k := k) hv d'
    obtain ⟨y, g1, g2⟩ := ih N (d' + 2) (si x 10 (d' + 1) (nI (LKV k v (d' + 1)))) (by omega) (by omega) (by omega) (RL_only h (only_si _ _ _ _) (by omega)) (fun e he => by
      by_cases h : e = d' + 1
      · subst h; exact gi_si_s _ _ _ _
      · rw [gi_si_n _ _ _ _ (by omega)]; exact hr e (by omega))
    refine ⟨y, ?_, only_tr (only_si _ _ _ _) g2⟩
    rw [← g1]
    show (if (100 : Int32) ≤ nI (d' + 1) then _ else _) = _
    rw [if_neg (show ¬ (100 : Int32) ≤ nI (d' + 1) from nI_ge (b := 100) (by omega) (by decide)), show d' + 1 - 1 = d' by omega, c_step x hk (by omega) (by omega), bnd_some, show rf 9 0 = 10 from rfl, show ln 10 = 100 from rfl, if_pos (ixb_nI (by omega) (by omega)), ix_nI (by omega), st_eq, nI_1]; rfl
theorem c_isByFacts {x : St} {k v : Nat} {g : Nat → Int32} (hI : InvG g) (hk : k ≤ 5) (hv : v ≤ 99) (h : RL x 16 g) : ∃ y, ff_OU_isByFacts x 9 (rf 16 4) (nI k) (nI v) = some (b32 (lkB g k v), y) ∧ only 10 x y := by
  obtain ⟨y, h1, h2⟩ := c_by14 hI hk hv 99 FU 1 (si x 10 0 (nI (LKV k v 0))) (by omega) (by unfold FU; omega) (by omega) (RL_only h (only_si _ _ _ _) (by omega)) (fun e he => by
    have : e = 0 := by omega
    subst this
    exact gi_si_s _ _ _ _)
  refine ⟨y, ?_, only_tr (only_si _ _ _ _) h2⟩
  rw [← h1]
  unfold ff_OU_isByFacts
  rw [show rf 9 0 = 10 from rfl, show ln 10 = 100 from rfl, if_pos (by decide), st_eq]; rfl
theorem m_lk72 {x : St} {b k v i : Nat} {g : Nat → Int32} (hI : InvG g) (hV : MV x b g) (hi : i < ix (g 4)) (hv : v ≤ 99) (hr : ∀ e, e < 100 → gi x 109 e = nI (LKV k v e)) (K : St → Nat → Int32 → Int32 → Option (Int32 × St)) (fl : Int32) : ∀ (n N e : Nat), e = ix (g (88 + 3 * i)) + n → e ≤ 100 → n < N →
    ff_MO_isLikely_72 K N x 100 fl (nI i) (nI (87 + 3 * i)) (nI (fw (LKV k v) (ix (g (87 + 3 * i))) e (100 - e))) (nI e - 1) = ff_MO_isLikely_116 K x 100 fl (nI i) (nI (87 + 3 * i)) (nI (fw (LKV k v) (ix (g (87 + 3 * i))) (ix (g (88 + 3 * i))) (100 - ix (g (88 + 3 * i))))) := by
  have hF2 := hI.1.2.2.2.2.1.2
  obtain ⟨r0, r1, r2, r3⟩ := hI.2.2.2.2.2.1 i hi
  have r12 := r1.2
  have r02 := r0.2
  intro n
  induction n with
  | zero =>
    intro N e he he2 hN
    obtain ⟨N, rfl⟩ : ∃ K, N = K + 1 := ⟨N - 1, by omega⟩
    show bnd (ff_MO_get x 100 (nI (87 + 3 * i) + 1)) _ = _
    rw [show (nI (87 + 3 * i) + 1 : Int32) = nI (88 + 3 * i) from by rw [nI_1]; congr 1; omega, m_getN hV (by omega) r1, bnd_some, if_pos, he]
    · rfl
    · have : e = ix (g (88 + 3 * i)) := he
      rw [← this]
      cases e with
      | zero => decide
      | succ e => rw [nI_pred]; exact nI_lt (by omega) (by omega)
  | succ n ih =>
    intro N e he he2 hN
    obtain ⟨N, rfl⟩ : ∃ K, N = K + 1 := ⟨N - 1, by omega⟩
    obtain ⟨e, rfl⟩ : ∃ k, e = k + 1 := ⟨e - 1, by omega⟩
    have hle := LKV_le (k := k) hv e
    show bnd (ff_MO_get x 100 (nI (87 + 3 * i) + 1)) _ = _
    rw [show (nI (87 + 3 * i) + 1 : Int32) = nI (88 + 3 * i) from by rw [nI_1]; congr 1; omega, m_getN hV (by omega) r1, bnd_some, nI_pred, if_neg (nI_nlt (by omega) (by omega)), show rf 100 18 = 109 from rfl, show ln 109 = 100 from rfl, if_pos (ixb_nI (by omega) (by omega)), ix_nI (by omega), m_getN hV (by omega) r0, bnd_some, hr e (by omega)]
    have ih2 := ih N e (by omega) (by omega) (by omega)
    rw [show 100 - e = (100 - (e + 1)) + 1 by omega] at ih2
    have em : (nI e + (-1) : Int32) = nI e - 1 := (Int32.sub_eq_add_neg _ _).symm
    rw [fw_s] at ih2
    by_cases q : ix (g (87 + 3 * i)) ≤ LKV k v e
    · rw [if_pos q] at ih2
      rw [if_pos (nI_le q (by omega)), em]
      exact ih2
    · rw [if_neg q] at ih2
      rw [if_neg (nI_ge (by omega) (by omega)), em]
      exact ih2
theorem m_lk45 {x : St} {b k v : Nat} {g : Nat → Int32} (hI : InvG g) (hV : MV x b g) (hv : v ≤ 99) (hr : ∀ e, e < 100 → gi x 109 e = nI (LKV k v e)) : ∀ (n N i : Nat) (fl : Bool), i + n = ix (g 4) → n < N → ff_MO_isLikely_45 N x 100 (b32 fl) (nI i) = some (b32 (fl && allU (lkc g k v) i n), x) := by
  have hF := hI.1.2.2.2.2.1
  have hF2 := hF.2
  intro n
  induction n with
  | zero =>
    intro N i fl hi hN
    obtain ⟨N, rfl⟩ : ∃ K, N = K + 1 := ⟨N - 1, by omega⟩
    show bnd (ff_MO_get x 100 (nI 4)) _ = _
    rw [m_getN hV (by decide) hF, bnd_some, if_pos (nI_le (by omega) (by omega))]
    cases fl <;> rfl
  | succ n ih =>
    intro N i fl hi hN
    obtain ⟨N, rfl⟩ : ∃ K, N = K + 1 := ⟨N - 1, by omega⟩
    obtain ⟨r0, r1, r2, r3⟩ := hI.2.2.2.2.2.1 i (by omega)
    have r12 := r1.2
    have r22 := r2.2
    have i0 := ih N (i + 1) false (by omega) (by omega)
    have i1 := ih N (i + 1) true (by omega) (by omega)
    have hfw := fw_le (LKV k v) (ix (g (87 + 3 * i))) (100 - ix (g (88 + 3 * i))) (ix (g (88 + 3 * i)))
    have e7 := m_lk72 hI hV (i := i) (by omega) hv hr (ff_MO_isLikely_45 N) (b32 fl) (100 - ix (g (88 + 3 * i))) FU 100 (by omega) (by omega) (by unfold FU; omega)
    show bnd (ff_MO_get x 100 (nI 4)) _ = _
    rw [m_getN hV (by decide) hF, bnd_some, if_neg (nI_ge (by omega) (by omega)), show (87 + 3 * nI i : Int32) = nI (87 + 3 * i) from lin 87 3 i]
    show ff_MO_isLikely_72 _ FU x 100 (b32 fl) (nI i) (nI (87 + 3 * i)) (nI (fw (LKV k v) (ix (g (87 + 3 * i))) 100 (100 - 100))) (nI 100 - 1) = _
    rw [e7]
    show _ = some (b32 (fl && (lkc g k v i && allU (lkc g k v) (i + 1) n)), x)
    unfold ff_MO_isLikely_116
    cases fl with
    | false =>
      rw [show b32 false = 0 from rfl, if_pos rfl, nI_1]
      exact i0
    | true =>
      rw [show b32 true = 1 from rfl, if_neg (by decide), show (nI (87 + 3 * i) + 2 : Int32) = nI (89 + 3 * i) from by rw [show (2 : Int32) = nI 2 from rfl, nI_add]; congr 1; omega, m_getN hV (by omega) r2, bnd_some, nI_1]
      by_cases q : fw (LKV k v) (ix (g (87 + 3 * i))) (ix (g (88 + 3 * i))) (100 - ix (g (88 + 3 * i))) = ix (g (89 + 3 * i))
      · have : lkc g k v i = true := by unfold lkc; rw [decide_eq_true_eq]; exact q
        rw [q, if_pos rfl, this]
        exact i1
      · have : lkc g k v i = false := by unfold lkc; rw [decide_eq_false_iff_not]; exact q
        rw [if_neg (nI_eqn (by omega) (by omega) q), this]
        exact i0
theorem m_lk9 {b k v : Nat} {g : Nat → Int32} (hI : InvG g) (hk : k ≤ 5) (hv : v ≤ 99) : ∀ (n N d : Nat) (x : St), d + n = 100 → n < N → 1 ≤ d → MV x b g → (∀ e, e < d → gi x 109 e = nI (LKV k v e)) →
    ∃ y, ff_MO_isLikely_9 N x 100 (nI k) (nI d) = some (b32 (lkB g k v), y) ∧ only 109 x y := by
  have hF2 := hI.1.2.2.2.2.1.2
  intro n
  induction n with
  | zero =>
    intro N d x hd hN h1 h hr
    obtain ⟨N, rfl⟩ : ∃ K, N = K + 1 := ⟨N - 1, by omega⟩
    refine ⟨x, ?_, only_rf⟩
    show (if (99 : Int32) < nI d then _ else _) = _
    rw [if_pos (show (99 : Int32) < nI d from nI_lt (a := 99) (by omega) (by omega))]
    have := m_lk45 hI h hv (fun e he => hr e (by omega)) (ix (g 4)) FU 0 true (by omega) (by unfold FU; omega)
    rw [Bool.true_and] at this
    exact this
  | succ n ih =>
    intro N d x hd hN h1 h hr
    obtain ⟨N, rfl⟩ : ∃ K, N = K + 1 := ⟨N - 1, by omega⟩
    obtain ⟨d', rfl⟩ : ∃ k, d = k + 1 := ⟨d - 1, by omega⟩
    have hle := LKV_le (k := k) hv d'
    obtain ⟨y, g1, g2⟩ := ih N (d' + 2) (si x 109 (d' + 1) (nI (LKV k v (d' + 1)))) (by omega) (by omega) (by omega) (MV_only h (only_si _ _ _ _) (by decide) (by decide)) (fun e he => by
      by_cases h : e = d' + 1
      · subst h; exact gi_si_s _ _ _ _
      · rw [gi_si_n _ _ _ _ (by omega)]; exact hr e (by omega))
    refine ⟨y, ?_, only_tr (only_si _ _ _ _) g2⟩
    rw [← g1]
    show (if (99 : Int32) < nI (d' + 1) then _ else _) = _
    rw [if_neg (show ¬ (99 : Int32) < nI (d' + 1) from nI_nlt (b := d' + 1) (a := 99) (by omega) (by decide)), nI_pred, show rf 100 18 = 109 from rfl, show ln 109 = 100 from rfl, if_pos (ixb_nI (by omega) (by omega)), ix_nI (by omega), hr d' (by omega), m_step x hk (by omega) (by omega), bnd_some, if_pos (ixb_nI (by omega) (by omega)), ix_nI (by omega), st_eq, nI_1]; rfl
theorem m_isLikely {x : St} {b k v : Nat} {g : Nat → Int32} (hI : InvG g) (hk : k ≤ 5) (hv : v ≤ 99) (h : MV x b g) : ∃ y, ff_MO_isLikely x 100 (nI k) (nI v) = some (b32 (lkB g k v), y) ∧ only 109 x y := by
  obtain ⟨y, h1, h2⟩ := m_lk9 (b := b) hI hk hv 99 FU 1 (si x 109 0 (nI (LKV k v 0))) (by omega) (by unfold FU; omega) (by omega) (MV_only h (only_si _ _ _ _) (by decide) (by decide)) (fun e he => by
    have : e = 0 := by omega
    subst this
    exact gi_si_s _ _ _ _)
  refine ⟨y, ?_, only_tr (only_si _ _ _ _) h2⟩
  rw [← h1]
  unfold ff_MO_isLikely
  rw [show rf 100 18 = 109 from rfl, show ln 109 = 100 from rfl, if_pos (by decide), st_eq]; rfl
theorem s_likelyL {b k : Nat} {g : Nat → Int32} (hI : InvG g) (hk : k ≤ 5) (what : Int32) : ∀ (n N M v : Nat) (c f l : Int32) (x z : St), v + n = 100 → n < N → n < M → RL x 16 g → MV z b g →
    ∃ r y w, ff_OU_firstGriefs_12 N x 9 (rf 16 4) (nI k) what c f l (nI v) = some (r, y) ∧ ff_MO_likely_34 M z 100 (nI k) what c f l (nI v) = some (r, w) ∧ only 10 x y ∧ only 109 z w := by
  intro n
  induction n with
  | zero =>
    intro N M v c f l x z hv hN hM h h'
    obtain ⟨N, rfl⟩ : ∃ K, N = K + 1 := ⟨N - 1, by omega⟩
    obtain ⟨M, rfl⟩ : ∃ K, M = K + 1 := ⟨M - 1, by omega⟩
    refine ⟨if what = 0 then c else if what = 1 then f else l, x, z, ?_, ?_, only_rf, only_rf⟩
    · show (if (100 : Int32) ≤ nI v then _ else _) = _
      rw [if_pos (show (100 : Int32) ≤ nI v from nI_le (a := 100) (by omega) (by omega))]
      unfold ff_OU_firstGriefs_53
      split
      · rfl
      · split <;> rfl
    · show (if (99 : Int32) < nI v then _ else _) = _
      rw [if_pos (show (99 : Int32) < nI v from nI_lt (a := 99) (by omega) (by omega))]
      unfold ff_MO_likely_79
      split
      · rfl
      · split <;> rfl
  | succ n ih =>
    intro N M v c f l x z hv hN hM h h'
    obtain ⟨N, rfl⟩ : ∃ K, N = K + 1 := ⟨N - 1, by omega⟩
    obtain ⟨M, rfl⟩ : ∃ K, M = K + 1 := ⟨M - 1, by omega⟩
    obtain ⟨y, y1, y2⟩ := c_isByFacts hI hk (v := v) (by omega) h
    obtain ⟨w, w1, w2⟩ := m_isLikely hI hk (v := v) (by omega) h'
    have go : ∀ c' f' l' : Int32, ∃ r y' w', ff_OU_firstGriefs_12 N y 9 (rf 16 4) (nI k) what c' f' l' (nI v + 1) = some (r, y') ∧ ff_MO_likely_34 M w 100 (nI k) what c' f' l' (nI v + 1) = some (r, w') ∧ only 10 x y' ∧ only 109 z w' := by
      intro c' f' l'
      obtain ⟨r, y', w', a1, a2, a3, a4⟩ := ih N M (v + 1) c' f' l' y w (by omega) (by omega) (by omega) (RL_only h y2 (by omega)) (MV_only h' w2 (by decide) (by decide))
      exact ⟨r, y', w', by rw [nI_1]; exact a1, by rw [nI_1]; exact a2, only_tr y2 a3, only_tr w2 a4⟩
    have eC : ff_OU_firstGriefs_12 (N + 1) x 9 (rf 16 4) (nI k) what c f l (nI v) = if b32 (lkB g k v) = 0 then ff_OU_firstGriefs_12 N y 9 (rf 16 4) (nI k) what c f l (nI v + 1) else if f = -1 then ff_OU_firstGriefs_12 N y 9 (rf 16 4) (nI k) what (c + 1) (nI v) (nI v) (nI v + 1) else ff_OU_firstGriefs_12 N y 9 (rf 16 4) (nI k) what (c + 1) f (nI v) (nI v + 1) := by
      show (if (100 : Int32) ≤ nI v then _ else _) = _
      rw [if_neg (show ¬ (100 : Int32) ≤ nI v from nI_ge (b := 100) (by omega) (by decide)), y1, bnd_some]
    have eM : ff_MO_likely_34 (M + 1) z 100 (nI k) what c f l (nI v) = if b32 (lkB g k v) = 0 then ff_MO_likely_34 M w 100 (nI k) what c f l (nI v + 1) else if f = -1 then ff_MO_likely_34 M w 100 (nI k) what (c + 1) (nI v) (nI v) (nI v + 1) else ff_MO_likely_34 M w 100 (nI k) what (c + 1) f (nI v) (nI v + 1) := by
      show (if (99 : Int32) < nI v then _ else _) = _
      rw [if_neg (show ¬ (99 : Int32) < nI v from nI_nlt (b := v) (a := 99) (by omega) (by decide)), w1, bnd_some]
    rw [eC, eM]
    by_cases q : b32 (lkB g k v) = 0
    · rw [if_pos q, if_pos q]; exact go _ _ _
    · rw [if_neg q, if_neg q]
      by_cases q2 : f = -1
      · rw [if_pos q2, if_pos q2]; exact go _ _ _
      · rw [if_neg q2, if_neg q2]; exact go _ _ _
