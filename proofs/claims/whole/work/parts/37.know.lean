/-! what was before is kept -/
def KN (g g' : Nat → Int32) (n e : Nat) : Prop := (∀ k, k < 105 → k ≠ 6 → g' k = g k) ∧ g' 6 = nI (n + 1) ∧ (∀ u i, u < n → i < 21 → g' (105 + 21 * u + i) = g (105 + 21 * (u + e) + i)) ∧ g' (105 + 21 * n) = g 5 ∧ g' (106 + 21 * n) = g 1 ∧ ∀ j k, j < 6 → k < 3 → g' (107 + 21 * n + 3 * j + k) = g (26 + 4 * j + k)
def KC (c y : St) (n e : Nat) : Prop := (∀ a k, a ≠ 35 → ¬ (a = 16 ∧ k = 8) → gi y a k = gi c a k) ∧ (∀ a k, gl y a k = gl c a k) ∧ gi y 16 8 = nI (n + 1) ∧ (∀ u i, u < n → i < 19 → gi y 35 (19 * u + i) = gi c 35 (19 * (u + e) + i)) ∧ gi y 35 (19 * n) = gi c 16 9 ∧ ∀ i, i < 18 → gi y 35 (19 * n + 1 + i) = gi c 34 i
theorem m_k95 {b p j : Nat} (h2 : b + 315 ≤ 1260) (hp : 105 ≤ p) (hp2 : p + 21 ≤ 315) (hj : j < 6) (K : St → Nat → Int32 → Int32 → Option (Unit × St)) : ∀ (r N k : Nat) (x : St), k + r = 3 → r < N → gi x 100 1 = nI b → ∃ y, ff_MO_know_95 K N x 100 (nI p) (nI j) (nI k) = K y 100 (nI p) (nI (j + 1)) ∧ onlyR b x y ∧ (∀ i, ¬ (p + 2 + 3 * j + k ≤ i ∧ i < p + 2 + 3 * j + 3) → reg y b i = reg x b i) ∧ ∀ i, k ≤ i → i < 3 → reg y b (p + 2 + 3 * j + i) = reg x b (26 + 4 * j + i) := by
  intro r
  induction r with
  | zero =>
    intro N k x hk hN h1
    obtain ⟨N, rfl⟩ : ∃ K, N = K + 1 := ⟨N - 1, by omega⟩
    refine ⟨x, ?_, onlyR_rf, fun _ _ => rfl, fun i _ _ => by omega⟩
    show (if (3 : Int32) ≤ nI k then _ else _) = _
    rw [if_pos (show (3 : Int32) ≤ nI k from nI_le (a := 3) (by omega) (by omega)), nI_1]
  | succ r ih =>
    intro N k x hk hN h1
    obtain ⟨N, rfl⟩ : ∃ K, N = K + 1 := ⟨N - 1, by omega⟩
    obtain ⟨y, y1, y2, y3, y4⟩ := ih N (k + 1) (si x 101 (b + (p + 2 + 3 * j + k)) (reg x b (26 + 4 * j + k))) (by omega) (by omega) (b_si h1)
    refine ⟨y, ?_, onlyR_tr (onlyR_si _ _ (by omega)) y2, fun i hi => ?_, fun i hi hi2 => ?_⟩
    · rw [← y1]
      show (if (3 : Int32) ≤ nI k then _ else _) = _
      rw [if_neg (show ¬ (3 : Int32) ≤ nI k from nI_ge (b := 3) (by omega) (by decide)), show (25 + 4 * nI j + 1 + nI k : Int32) = nI (26 + 4 * j + k) from by rw [show (25 + 4 * nI j : Int32) = nI (25 + 4 * j) from lin 25 4 j, nI_1, nI_add]; congr 1; omega, m_g h1 h2 (by omega), bnd_some, show (nI p + 2 + 3 * nI j + nI k : Int32) = nI (p + 2 + 3 * j + k) from by rw [show (2 : Int32) = nI 2 from rfl, show (3 : Int32) = nI 3 from rfl, pk_mul, nI_add, nI_add, nI_add], m_s h1 h2 (by omega), bnd_some, nI_1]
    · rw [y3 i (by omega), reg_si, upd_n _ _ (by omega)]
    · by_cases z : i = k
      · subst z
        rw [y3 _ (by omega), reg_si, upd_s]
      · rw [y4 i (by omega) hi2, reg_si, upd_n _ _ (by omega)]
theorem m_k87 {b p : Nat} (h2 : b + 315 ≤ 1260) (hp : 105 ≤ p) (hp2 : p + 21 ≤ 315) : ∀ (r N j : Nat) (x : St), j + r = 6 → r < N → gi x 100 1 = nI b → ∃ y, ff_MO_know_87 N x 100 (nI p) (nI j) = ff_MO_know_139 y 100 ∧ onlyR b x y ∧ (∀ i, ¬ (p + 2 + 3 * j ≤ i ∧ i < p + 20) → reg y b i = reg x b i) ∧ ∀ j' i, j ≤ j' → j' < 6 → i < 3 → reg y b (p + 2 + 3 * j' + i) = reg x b (26 + 4 * j' + i) := by
  intro r
  induction r with
  | zero =>
    intro N j x hj hN h1
    obtain ⟨N, rfl⟩ : ∃ K, N = K + 1 := ⟨N - 1, by omega⟩
    refine ⟨x, ?_, onlyR_rf, fun _ _ => rfl, fun j' i _ _ _ => by omega⟩
    show (if (6 : Int32) ≤ nI j then _ else _) = _
    rw [if_pos (show (6 : Int32) ≤ nI j from nI_le (a := 6) (by omega) (by omega))]
  | succ r ih =>
    intro N j x hj hN h1
    obtain ⟨N, rfl⟩ : ∃ K, N = K + 1 := ⟨N - 1, by omega⟩
    obtain ⟨y, y1, y2, y3, y4⟩ := m_k95 (j := j) h2 hp hp2 (by omega) (ff_MO_know_87 N) 3 FU 0 x (by omega) (by unfold FU; omega) h1
    obtain ⟨z, z1, z2, z3, z4⟩ := ih N (j + 1) y (by omega) (by omega) (by rw [y2.1 _ _ (by omega)]; exact h1)
    refine ⟨z, ?_, onlyR_tr y2 z2, fun i hi => by rw [z3 i (by omega), y3 i (by omega)], fun j' i h3 h4 h5 => ?_⟩
    · rw [← z1, ← y1]
      show (if (6 : Int32) ≤ nI j then _ else _) = _
      rw [if_neg (show ¬ (6 : Int32) ≤ nI j from nI_ge (b := 6) (by omega) (by decide))]; rfl
    · by_cases w : j' = j
      · subst w
        rw [z3 _ (by omega), y4 i (by omega) h5]
      · rw [z4 j' i (by omega) h4 h5, y3 _ (by omega)]
theorem m_k50 {x : St} {b n : Nat} (h1 : gi x 100 1 = nI b) (h2 : b + 315 ≤ 1260) (h6 : reg x b 6 = nI n) (hn : n < 10) : ∃ y, ff_MO_know_50 x 100 = some ((), y) ∧ onlyR b x y ∧ KN (reg x b) (reg y b) n 0 := by
  have hp : (105 + 21 * nI n : Int32) = nI (105 + 21 * n) := lin 105 21 n
  obtain ⟨y, y1, y2, y3, y4⟩ := m_k87 (b := b) (p := 105 + 21 * n) h2 (by omega) (by omega) 6 FU 0 (si (si x 101 (b + (105 + 21 * n)) (reg x b 5)) 101 (b + (105 + 21 * n + 1)) (reg x b 1)) (by omega) (by unfold FU; omega) (b_si (b_si h1))
  have hb : gi y 100 1 = nI b := by rw [y2.1 _ _ (by omega)]; exact h1
  have hx : onlyR b x y := onlyR_tr (onlyR_tr (onlyR_si _ _ (by omega)) (onlyR_si _ _ (by omega))) y2
  have e6 : reg y b 6 = nI n := by rw [y3 6 (by omega), reg_si, reg_si, upd_n _ _ (by omega), upd_n _ _ (by omega), h6]
  have er : ∀ i, ¬ (105 + 21 * n ≤ i ∧ i < 105 + 21 * n + 20) → reg y b i = reg x b i := fun i hi => by rw [y3 i (by omega), reg_si, reg_si, upd_n _ _ (by omega), upd_n _ _ (by omega)]
  refine ⟨si y 101 (b + 6) (nI (n + 1)), ?_, onlyR_tr hx (onlyR_si _ _ (by omega)), fun k hk hk2 => ?_, ?_, fun u i hu hi => ?_, ?_, ?_, fun j k hj hk => ?_⟩
  · unfold ff_MO_know_50
    have y1' : ff_MO_know_87 FU (si (si x 101 (b + (105 + 21 * n)) (reg x b 5)) 101 (b + (105 + 21 * n + 1)) (reg x b 1)) 100 (nI (105 + 21 * n)) 0 = _ := y1
    rw [show (6 : Int32) = nI 6 from rfl, m_g h1 h2 (by decide), bnd_some, h6, show (5 : Int32) = nI 5 from rfl, m_g h1 h2 (by decide), bnd_some, hp, m_s h1 h2 (by omega), bnd_some, show ff_MO_get (si x 101 (b + (105 + 21 * n)) (reg x b 5)) 100 1 = _ from m_g (k := 1) (b_si h1) h2 (by decide), bnd_some, reg_si, upd_n _ _ (by omega), nI_1, m_s (b_si h1) h2 (by omega), bnd_some, y1']
    unfold ff_MO_know_139
    rw [show (6 : Int32) = nI 6 from rfl, m_g hb h2 (by decide), bnd_some, e6, nI_1, m_s hb h2 (by decide), bnd_some]
  · rw [reg_si, upd_n _ _ hk2, er k (by omega)]
  · rw [reg_si, upd_s]
  · rw [reg_si, upd_n _ _ (by omega), er _ (by omega), Nat.add_zero]
  · rw [reg_si, upd_n _ _ (by omega), y3 _ (by omega), reg_si, reg_si, upd_n _ _ (by omega), upd_s]
  · rw [reg_si, upd_n _ _ (by omega), y3 _ (by omega), reg_si, show 106 + 21 * n = 105 + 21 * n + 1 by omega, upd_s]
  · rw [reg_si, upd_n _ _ (by omega), show 107 + 21 * n + 3 * j + k = 105 + 21 * n + 2 + 3 * j + k by omega, y4 j k (by omega) hj hk, reg_si, reg_si, upd_n _ _ (by omega), upd_n _ _ (by omega)]
theorem m_k13 {b : Nat} (h2 : b + 315 ≤ 1260) : ∀ (r N v : Nat) (x : St), v + r = 189 → r < N → gi x 100 1 = nI b → ∃ y, ff_MO_know_13 N x 100 (nI v) = ff_MO_know_42 y 100 ∧ onlyR b x y ∧ (∀ i, ¬ (105 + v ≤ i ∧ i < 294) → reg y b i = reg x b i) ∧ ∀ i, v ≤ i → i < 189 → reg y b (105 + i) = reg x b (126 + i) := by
  intro r
  induction r with
  | zero =>
    intro N v x hv hN h1
    obtain ⟨N, rfl⟩ : ∃ K, N = K + 1 := ⟨N - 1, by omega⟩
    refine ⟨x, ?_, onlyR_rf, fun _ _ => rfl, fun i _ _ => by omega⟩
    show (if (189 : Int32) ≤ nI v then _ else _) = _
    rw [if_pos (show (189 : Int32) ≤ nI v from nI_le (a := 189) (by omega) (by omega))]
  | succ r ih =>
    intro N v x hv hN h1
    obtain ⟨N, rfl⟩ : ∃ K, N = K + 1 := ⟨N - 1, by omega⟩
    obtain ⟨y, y1, y2, y3, y4⟩ := ih N (v + 1) (si x 101 (b + (105 + v)) (reg x b (126 + v))) (by omega) (by omega) (b_si h1)
    refine ⟨y, ?_, onlyR_tr (onlyR_si _ _ (by omega)) y2, fun i hi => ?_, fun i hi hi2 => ?_⟩
    · rw [← y1]
      show (if (189 : Int32) ≤ nI v then _ else _) = _
      rw [if_neg (show ¬ (189 : Int32) ≤ nI v from nI_ge (b := 189) (by omega) (by decide)), show (126 + nI v : Int32) = nI (126 + v) from nI_add 126 v, m_g h1 h2 (by omega), bnd_some, show (105 + nI v : Int32) = nI (105 + v) from nI_add 105 v, m_s h1 h2 (by omega), bnd_some, nI_1]
    · rw [y3 i (by omega), reg_si, upd_n _ _ (by omega)]
    · by_cases z : i = v
      · subst z
        rw [y3 _ (by omega), reg_si, upd_s]
      · rw [y4 i (by omega) hi2, reg_si, upd_n _ _ (by omega)]
theorem m_know {x : St} {b n : Nat} (h1 : gi x 100 1 = nI b) (h2 : b + 315 ≤ 1260) (h6 : reg x b 6 = nI n) (hn : n ≤ 10) : ∃ y, ff_MO_know x 100 = some ((), y) ∧ onlyR b x y ∧ KN (reg x b) (reg y b) (if n = 10 then 9 else n) (if n = 10 then 1 else 0) := by
  have g6 : ff_MO_get x 100 6 = some (nI n, x) := by rw [show ff_MO_get x 100 6 = _ from m_g (k := 6) h1 h2 (by decide), h6]
  by_cases q : n = 10
  · rw [if_pos q, if_pos q]
    obtain ⟨y, y1, y2, y3, y4⟩ := m_k13 h2 189 FU 0 x (by omega) (by unfold FU; omega) h1
    have hb : gi y 100 1 = nI b := by rw [y2.1 _ _ (by omega)]; exact h1
    obtain ⟨z, z1, z2, k1, k2, k3, k4, k5, k6⟩ := m_k50 (n := 9) (b_si (k := 6) (v := 9) hb) h2 (by rw [reg_si, upd_s]; rfl) (by decide)
    refine ⟨z, ?_, onlyR_tr y2 (onlyR_tr (onlyR_si _ _ (by decide)) z2), fun k hk hk2 => ?_, k2, fun u i hu hi => ?_, ?_, ?_, fun j k hj hk => ?_⟩
    · unfold ff_MO_know
      have y1' : ff_MO_know_13 FU x 100 0 = _ := y1
      rw [g6, bnd_some, q, if_pos (by decide), y1']
      unfold ff_MO_know_42
      rw [show ff_MO_set y 100 6 9 = _ from m_s (k := 6) hb h2 (by decide) 9, bnd_some, z1]
    · rw [k1 k hk hk2, reg_si, upd_n _ _ hk2, y3 k (by omega)]
    · rw [k3 u i hu hi, reg_si, upd_n _ _ (by omega), show 105 + 21 * (u + 0) + i = 105 + (21 * u + i) by omega, y4 _ (by omega) (by omega), show 126 + (21 * u + i) = 105 + 21 * (u + 1) + i by omega]
    · rw [k4, reg_si, upd_n _ _ (by omega), y3 _ (by omega)]
    · rw [k5, reg_si, upd_n _ _ (by omega), y3 _ (by omega)]
    · rw [k6 j k hj hk, reg_si, upd_n _ _ (by omega), y3 _ (by omega)]
  · rw [if_neg q, if_neg q]
    obtain ⟨z, z1, z2, z3⟩ := m_k50 h1 h2 h6 (by omega)
    refine ⟨z, ?_, z2, z3⟩
    unfold ff_MO_know
    rw [g6, bnd_some, if_neg (show ¬ nI n = 10 from nI_eqn (b := 10) (by omega) (by decide) q), z1]
theorem c_keep32 {c : St} {n : Nat} (h8 : gi c 16 8 = nI n) (hn : n < 10) : ∃ y, ff_SH_keepPast_32 c 16 = some ((), y) ∧ KC c y n 0 := by
  refine ⟨si (cpi (si c 35 (19 * n) (gi c 16 9)) 34 0 35 (19 * n + 1) 18) 16 8 (nI (n + 1)), ?_, fun a k h1 h2 => ?_, fun _ _ => rfl, gi_si_s _ _ _ _, fun u i hu hi => ?_, ?_, fun i hi => ?_⟩
  · unfold ff_SH_keepPast_32
    have e1 : (nI n * 19 : Int32) = nI (19 * n) := by rw [show (19 : Int32) = nI 19 from rfl, pk_mul, Nat.mul_comm]
    have e2 : gi (si c 35 (19 * n) (gi c 16 9)) 16 8 = nI n := h8
    have e3 : gi (cpi (si c 35 (19 * n) (gi c 16 9)) 34 0 35 (19 * n + 1) 18) 16 8 = nI n := h8
    rw [show rf 16 7 = 35 from rfl, show rf 16 6 = 34 from rfl, show ln 35 = 190 from rfl, show ln 34 = 18 from rfl, h8, e1, if_pos (ixb_nI (by omega) (by omega)), st_eq, ix_nI (by omega), if_pos (by decide), e2, e1, nI_1, if_pos (show spb (nI (19 * n + 1)) 18 190 = true from spb_nI (n := 18) (by omega) (by omega) (by decide)), st_eq, ix_nI (by omega)]
    show st (si (cpi (si c 35 (19 * n) (gi c 16 9)) 34 0 35 (19 * n + 1) 18) 16 8 (gi (cpi (si c 35 (19 * n) (gi c 16 9)) 34 0 35 (19 * n + 1) 18) 16 8 + 1)) _ = _
    rw [st_eq, e3, nI_1]
  · rw [gi_si_n _ _ _ _ h2, gi_cpi, if_neg (by omega), gi_si_n _ _ _ _ (by omega)]
  · rw [gi_si_n _ _ _ _ (by omega), gi_cpi, if_neg (by omega), gi_si_n _ _ _ _ (by omega), Nat.add_zero]
  · rw [gi_si_n _ _ _ _ (by omega), gi_cpi, if_neg (by omega), gi_si_s]
  · rw [gi_si_n _ _ _ _ (by omega), gi_cpi, if_pos ⟨rfl, by omega, by omega⟩, gi_si_n _ _ _ _ (by omega), show 0 + (19 * n + 1 + i - (19 * n + 1)) = i by omega]
theorem c_keep {c : St} {n : Nat} (h8 : gi c 16 8 = nI n) (hn : n ≤ 10) : ∃ y, ff_SH_keepPast c 16 = some ((), y) ∧ KC c y (if n = 10 then 9 else n) (if n = 10 then 1 else 0) := by
  unfold ff_SH_keepPast
  rw [h8]
  by_cases q : n = 10
  · rw [if_pos q, if_pos q, q, if_neg (by decide)]
    obtain ⟨y, y1, k1, k2, k3, k4, k5, k6⟩ := c_keep32 (c := si (cpi c 35 19 35 0 171) 16 8 9) (n := 9) (gi_si_s _ _ _ _) (by decide)
    refine ⟨y, ?_, fun a k h1 h2 => ?_, fun a k => by rw [k2]; rfl, k3, fun u i hu hi => ?_, ?_, fun i hi => ?_⟩
    · rw [show rf 16 7 = 35 from rfl, show ln 35 = 190 from rfl, if_pos (by decide), if_pos (by decide), st_eq, st_eq]
      exact y1
    · rw [k1 a k h1 h2, gi_si_n _ _ _ _ h2, gi_cpi, if_neg (by omega)]
    · rw [k4 u i hu hi, gi_si_n _ _ _ _ (by omega), gi_cpi, if_pos ⟨rfl, by omega, by omega⟩]
      congr 1; omega
    · rw [k5, gi_si_n _ _ _ _ (by omega), gi_cpi, if_neg (by omega)]
    · rw [k6 i hi, gi_si_n _ _ _ _ (by omega), gi_cpi, if_neg (by omega)]
  · rw [if_neg q, if_neg q, if_pos (show nI n < 10 from nI_lt (b := 10) (by omega) (by decide))]
    exact c_keep32 h8 (by omega)
