/-! griefs, as they should be -/
def widN (g d : Nat) : Nat := if d % 7 = 0 then g else g - 1
def stepN (k g d : Nat) : Nat := if k = 0 then g - 1 else if k = 1 then widN g d else if k = 2 then g - 3 else if k = 3 then (if d ≤ 20 then widN g d else 0) else if k = 4 then (if g ≤ 50 then g else g - 3) else widN (widN g d) d
def feastN (w v : Nat) : Nat := if w = 0 then v / 2 else min (v + 5) 99
theorem widN_le (g d : Nat) : widN g d ≤ g := by unfold widN; split <;> omega
theorem stepN_le (k g d : Nat) : stepN k g d ≤ g := by
  unfold stepN
  have h1 := widN_le g d
  have h2 := widN_le (widN g d) d
  split
  · omega
  · split
    · omega
    · split
      · omega
      · split
        · split <;> omega
        · split
          · split <;> omega
          · omega
theorem feastN_le {w v : Nat} (h : v ≤ 99) : feastN w v ≤ 99 := by unfold feastN; split <;> omega
theorem m_less (x : St) {g b : Nat} (hg : g < 2 ^ 31) (hb : b < 2 ^ 31) : ff_MO_less x (nI g) (nI b) = some (nI (g - b), x) := by
  unfold ff_MO_less
  by_cases h : g ≤ b
  · rw [if_pos (nI_le h hb), show g - b = 0 by omega, nI_0]
  · rw [if_neg (nI_ge (by omega) hg), pk_sub (by omega)]
theorem c_mourn (x : St) {g : Nat} (hg : g < 2 ^ 31) : ff_KI_mournerStep x (nI g) = some (nI (g - 1), x) := m_less x hg (b := 1) (by decide)
theorem c_heir (x : St) {g : Nat} (hg : g < 2 ^ 31) : ff_KI_heirStep x (nI g) = some (nI (g - 3), x) := m_less x hg (b := 3) (by decide)
theorem rem7 {d : Nat} (hd : d < 2 ^ 31) : (nI d - nI d / 7 * 7 = 0) ↔ d % 7 = 0 := by
  have e : nI d - nI d / nI 7 * nI 7 = nI (d % 7) := pk_rem hd (by decide) (by decide)
  rw [show (7 : Int32) = nI 7 from rfl, e, show (0 : Int32) = nI 0 from rfl, nI_eq (by omega) (by decide)]
theorem m_widow (x : St) {g d : Nat} (hg : g < 2 ^ 31) (hd : d < 2 ^ 31) : ff_MO_widow x (nI g) (nI d) = some (nI (widN g d), x) := by
  unfold ff_MO_widow widN
  by_cases h : d % 7 = 0
  · rw [if_pos ((rem7 hd).mpr h), if_pos h]
  · rw [if_neg (fun q => h ((rem7 hd).mp q)), if_neg h, show (1 : Int32) = nI 1 from rfl, m_less x hg (by decide)]; rfl
theorem c_widow (x : St) {g d : Nat} (hg : g < 2 ^ 31) (hd : d < 2 ^ 31) : ff_KI_widowStep x (nI g) (nI d) = some (nI (widN g d), x) := by
  unfold ff_KI_widowStep widN
  by_cases h : d % 7 = 0
  · rw [if_pos ((rem7 hd).mpr h), if_pos h]
  · rw [if_neg (fun q => h ((rem7 hd).mp q)), if_neg h, c_mourn x hg]; rfl
theorem nI_eqn {a b : Nat} (ha : a < 2 ^ 31) (hb : b < 2 ^ 31) (h : ¬ a = b) : ¬ nI a = nI b := fun q => h ((nI_eq ha hb).mp q)
theorem k6 {k : Nat} (hk : k ≤ 5) : k = 0 ∨ k = 1 ∨ k = 2 ∨ k = 3 ∨ k = 4 ∨ k = 5 := by omega
theorem m_step (x : St) {k g d : Nat} (hk : k ≤ 5) (hg : g < 2 ^ 31) (hd : d < 2 ^ 31) : ff_MO_step x (nI k) (nI g) (nI d) = some (nI (stepN k g d), x) := by
  have hw := widN_le g d
  unfold ff_MO_step
  rcases k6 hk with rfl | rfl | rfl | rfl | rfl | rfl
  · rw [if_pos (by decide), show (1 : Int32) = nI 1 from rfl, m_less x hg (by decide)]; rfl
  · rw [if_neg (by decide), if_pos (by decide), m_widow x hg hd]; rfl
  · rw [if_neg (by decide), if_neg (by decide), if_pos (by decide), show (3 : Int32) = nI 3 from rfl, m_less x hg (by decide)]; rfl
  · rw [if_neg (by decide), if_neg (by decide), if_neg (by decide), if_pos (by decide)]
    by_cases h : d ≤ 20
    · rw [if_pos (show nI d ≤ 20 from nI_le h (by decide)), m_widow x hg hd]
      simp [stepN, h, bnd]
    · rw [if_neg (show ¬ nI d ≤ 20 from nI_ge (a := 20) (by omega) hd)]
      simp [stepN, h, nI_0]
  · rw [if_neg (by decide), if_neg (by decide), if_neg (by decide), if_neg (by decide), if_pos (by decide)]
    by_cases h : g ≤ 50
    · rw [if_pos (show nI g ≤ 50 from nI_le h (by decide))]
      simp [stepN, h]
    · rw [if_neg (show ¬ nI g ≤ 50 from nI_ge (a := 50) (by omega) hg), show (3 : Int32) = nI 3 from rfl, m_less x hg (by decide)]
      simp [stepN, h, bnd]
  · rw [if_neg (by decide), if_neg (by decide), if_neg (by decide), if_neg (by decide), if_neg (by decide), m_widow x hg hd, bnd_some, m_widow x (by omega) hd]; rfl
theorem c_step (x : St) {k g d : Nat} (hk : k ≤ 5) (hg : g < 2 ^ 31) (hd : d < 2 ^ 31) : ff_KI_stepOf x (nI k) (nI g) (nI d) = some (nI (stepN k g d), x) := by
  have hw := widN_le g d
  unfold ff_KI_stepOf
  rcases k6 hk with rfl | rfl | rfl | rfl | rfl | rfl
  · rw [if_neg (by decide), if_neg (by decide), if_neg (by decide), if_neg (by decide), if_neg (by decide), c_mourn x hg]; rfl
  · rw [if_pos (by decide), c_widow x hg hd]; rfl
  · rw [if_neg (by decide), if_pos (by decide), c_heir x hg]; rfl
  · rw [if_neg (by decide), if_neg (by decide), if_pos (by decide)]
    by_cases h : d ≤ 20
    · rw [if_pos (show nI d ≤ 20 from nI_le h (by decide)), c_widow x hg hd]
      simp [stepN, h, bnd]
    · rw [if_neg (show ¬ nI d ≤ 20 from nI_ge (a := 20) (by omega) hd)]
      simp [stepN, h, nI_0]
  · rw [if_neg (by decide), if_neg (by decide), if_neg (by decide), if_pos (by decide)]
    by_cases h : g ≤ 50
    · rw [if_pos (show nI g ≤ 50 from nI_le h (by decide))]
      simp [stepN, h]
    · rw [if_neg (show ¬ nI g ≤ 50 from nI_ge (a := 50) (by omega) hg), c_heir x hg]
      simp [stepN, h, bnd]
  · rw [if_neg (by decide), if_neg (by decide), if_neg (by decide), if_neg (by decide), if_pos (by decide), c_widow x hg hd, bnd_some, c_widow x (by omega) hd]; rfl
theorem half_nI {v : Nat} (hv : v < 2 ^ 31) : nI v / 2 = nI (v / 2) := pk_div hv (by decide) (d := 2) (by decide)
theorem m_more (x : St) {v : Nat} (hv : v ≤ 99) : ff_MO_more x (nI v) = some (nI (min (v + 5) 99), x) := by
  unfold ff_MO_more
  rw [show nI v + 5 = nI (v + 5) from nI_add v 5]
  by_cases h : v + 5 ≤ 99
  · rw [if_pos (show nI (v + 5) ≤ 99 from nI_le h (by decide)), Nat.min_eq_left h]
  · rw [if_neg (show ¬ nI (v + 5) ≤ 99 from nI_ge (a := 99) (by omega) (by omega)), Nat.min_eq_right (by omega)]; rfl
theorem c_feast (x : St) {w v : Nat} (hw : w ≤ 1) (hv : v ≤ 99) : ff_KI_feastOf x (nI w) (nI v) = some (nI (feastN w v), x) := by
  unfold ff_KI_feastOf feastN
  by_cases h : w = 0
  · subst h
    rw [if_pos (by decide), half_nI (by omega)]; rfl
  · rw [if_neg (show ¬ nI w = 0 from nI_eqn (by omega) (by decide) h), if_neg h, show nI v + 5 = nI (v + 5) from nI_add v 5, show (99 : Int32) = nI 99 from rfl, imin_nI (by omega) (by decide)]
/-- the feast f is one of m on the day d, and isn't left out -/
def hit (g : Nat → Int32) (w : Int32) (m d f : Nat) : Bool := decide (¬ nI f = w ∧ g (58 + 3 * f) = nI d ∧ g (59 + 3 * f) = nI m)
def fe1 (g : Nat → Int32) (w : Int32) (m d f v : Nat) : Nat := if hit g w m d f = true then feastN (ix (g (57 + 3 * f))) v else v
/-- n feasts from f on, on the day d -/
def feU (g : Nat → Int32) (w : Int32) (m d : Nat) : Nat → Nat → Nat → Nat
  | _, 0, v => v
  | f, n + 1, v => feU g w m d (f + 1) n (fe1 g w m d f v)
theorem fe1_le {g : Nat → Int32} {w : Int32} {m d f v : Nat} (h : v ≤ 99) : fe1 g w m d f v ≤ 99 := by
  unfold fe1
  split
  · exact feastN_le h
  · exact h
theorem feU_le {g : Nat → Int32} {w : Int32} {m d : Nat} : ∀ (n f v : Nat), v ≤ 99 → feU g w m d f n v ≤ 99
  | 0, _, _, h => h
  | n + 1, f, v, h => feU_le n (f + 1) _ (fe1_le h)
/-- a grief on the day d, of v on the day ahead -/
def dayN (g : Nat → Int32) (w : Int32) (m v d : Nat) : Nat := feU g w m d 0 (ix (g 3)) (stepN (ix (g (7 + 3 * m))) v d)
def GR (g : Nat → Int32) (w : Int32) (m : Nat) : Nat → Nat
  | 0 => ix (g (8 + 3 * m))
  | d + 1 => dayN g w m (GR g w m d) (d + 1)
theorem dayN_le {g : Nat → Int32} {w : Int32} {m v d : Nat} (h : v ≤ 99) : dayN g w m v d ≤ 99 := feU_le _ _ _ (Nat.le_trans (stepN_le _ _ _) h)
theorem GR_le {g : Nat → Int32} {w : Int32} {m : Nat} (h : ix (g (8 + 3 * m)) ≤ 99) : ∀ d, GR g w m d ≤ 99
  | 0 => h
  | d + 1 => dayN_le (GR_le h d)
/-- a feast that is left out is as if it were another's -/
theorem feU_skip {g : Nat → Int32} {w : Int32} {m d k : Nat} (hw : w = nI k) (hk : ¬ g (59 + 3 * k) = nI m) (hk2 : k < 2 ^ 31) : ∀ (n f v : Nat), f + n < 2 ^ 31 → feU g w m d f n v = feU g (-1) m d f n v
  | 0, _, _, _ => rfl
  | n + 1, f, v, h => by
    have e : hit g w m d f = hit g (-1) m d f := by
      unfold hit
      have h1 : ¬ nI f = -1 := nI_ne_m1 (by omega)
      by_cases h2 : f = k
      · subst h2
        simp [hk]
      · have h3 : ¬ nI f = w := by rw [hw]; exact nI_eqn (by omega) hk2 h2
        simp [h1, h3]
    show feU g w m d (f + 1) n (fe1 g w m d f v) = feU g (-1) m d (f + 1) n (fe1 g (-1) m d f v)
    have e2 : fe1 g w m d f v = fe1 g (-1) m d f v := by unfold fe1; rw [e]
    rw [e2, feU_skip hw hk hk2 n (f + 1) _ (by omega)]
/-! what one shop holds: counts at 0 .. 6, mourners from 7, joints 25, pieces 49, feasts 57, facts 87, what may be undone 105 -/
def okB (M : Nat) (d a b : Int32) : Prop := (d = -1 ∧ a = -1 ∧ b = -1) ∨ (rg 99 d ∧ rg 5 a ∧ ix a < M ∧ (b = -1 ∨ (rg 5 b ∧ ix b < M ∧ ¬ b = a)))
def InvG (g : Nat → Int32) : Prop :=
  (rg 6 (g 0) ∧ rg 6 (g 1) ∧ rg 4 (g 2) ∧ rg 10 (g 3) ∧ rg 6 (g 4) ∧ rg 99 (g 5) ∧ rg 10 (g 6)) ∧
  (∀ i, i < ix (g 0) → rg 5 (g (7 + 3 * i)) ∧ rg 99 (g (8 + 3 * i)) ∧ rg 99 (g (9 + 3 * i))) ∧
  (∀ j, j < ix (g 1) → rg 99 (g (25 + 4 * j)) ∧ okB (ix (g 0)) (g (26 + 4 * j)) (g (27 + 4 * j)) (g (28 + 4 * j))) ∧
  (∀ i, i < ix (g 2) → rg (2 ^ ix (g 1) - 1) (g (49 + 2 * i)) ∧ 0 < ix (g (49 + 2 * i)) ∧ rg 99 (g (50 + 2 * i))) ∧
  (∀ i, i < ix (g 3) → rg 1 (g (57 + 3 * i)) ∧ rg 99 (g (58 + 3 * i)) ∧ 0 < ix (g (58 + 3 * i)) ∧ rg 5 (g (59 + 3 * i)) ∧ ix (g (59 + 3 * i)) < ix (g 0)) ∧
  (∀ i, i < ix (g 4) → rg 99 (g (87 + 3 * i)) ∧ rg 99 (g (88 + 3 * i)) ∧ rg 100 (g (89 + 3 * i)) ∧ ix (g (88 + 3 * i)) ≤ ix (g (89 + 3 * i))) ∧
  (∀ u, u < ix (g 6) → rg 99 (g (105 + 21 * u)) ∧ rg 6 (g (106 + 21 * u)) ∧ ix (g (106 + 21 * u)) ≤ ix (g 1) ∧ ∀ j, j < ix (g (106 + 21 * u)) → okB (ix (g 0)) (g (107 + 21 * u + 3 * j)) (g (108 + 21 * u + 3 * j)) (g (109 + 21 * u + 3 * j)))
/-! the reference: a region of its row -/
def MV (x : St) (b : Nat) (g : Nat → Int32) : Prop := gi x 100 1 = nI b ∧ b + 315 ≤ 1260 ∧ ∀ k, k < 315 → gi x 101 (b + k) = g k
theorem m_get {x : St} {b k : Nat} {g : Nat → Int32} (h : MV x b g) (hk : k < 315) : ff_MO_get x 100 (nI k) = some (g k, x) := by
  obtain ⟨h1, h2, h3⟩ := h
  unfold ff_MO_get
  rw [h1, nI_add, show rf 100 0 = 101 from rfl, show ln 101 = 1260 from rfl, if_pos (ixb_nI (by omega) (by omega)), ix_nI (by omega), h3 k hk]
theorem m_set {x : St} {b k : Nat} {g : Nat → Int32} (h : MV x b g) (hk : k < 315) (v : Int32) : ff_MO_set x 100 (nI k) v = some ((), si x 101 (b + k) v) := by
  obtain ⟨h1, h2, h3⟩ := h
  unfold ff_MO_set
  rw [h1, nI_add, show rf 100 0 = 101 from rfl, show ln 101 = 1260 from rfl, if_pos (ixb_nI (by omega) (by omega)), ix_nI (by omega)]; rfl
theorem MV_upd {x : St} {b k : Nat} {g : Nat → Int32} (h : MV x b g) (v : Int32) : MV (si x 101 (b + k) v) b (upd g k v) := by
  obtain ⟨h1, h2, h3⟩ := h
  refine ⟨h1, h2, fun j hj => ?_⟩
  rw [gi_si]
  unfold upd
  by_cases e : j = k
  · subst e
    rw [if_pos ⟨rfl, rfl⟩, if_pos rfl]
  · rw [if_neg (by omega), if_neg e, h3 j hj]
theorem m_onDayL {x : St} {b m d : Nat} {g : Nat → Int32} {w : Int32} (h : MV x b g) (hF : rg 10 (g 3)) (hfe : ∀ i, i < ix (g 3) → rg 1 (g (57 + 3 * i))) (hw : gi x 100 13 = w) (hm : m ≤ 6) (hd : d ≤ 99) : ∀ (n N f v : Nat), f + n = ix (g 3) → n < N → v ≤ 99 → ff_MO_onDay_20 N x 100 (nI m) (nI d) (nI v) (nI f) = some (nI (feU g w m d f n v), x) := by
  intro n
  have hF2 := hF.2
  induction n with
  | zero =>
    intro N f v hf hN hv
    obtain ⟨N, rfl⟩ : ∃ K, N = K + 1 := ⟨N - 1, by omega⟩
    show bnd (ff_MO_get x 100 (nI 3)) _ = _
    rw [m_get h (by decide), bnd_some, hF.1, if_pos (nI_le (by omega) (by omega))]; rfl
  | succ n ih =>
    intro N f v hf hN hv
    obtain ⟨N, rfl⟩ : ∃ K, N = K + 1 := ⟨N - 1, by omega⟩
    have go : ∀ v', v' ≤ 99 → v' = fe1 g w m d f v → ff_MO_onDay_20 N x 100 (nI m) (nI d) (nI v') (nI f + 1) = some (nI (feU g w m d f (n + 1) v), x) := by
      intro v' h1 h2
      rw [nI_1, ih N (f + 1) v' (by omega) (by omega) h1, h2]; rfl
    show bnd (ff_MO_get x 100 (nI 3)) _ = _
    rw [m_get h (by decide), bnd_some, hF.1, if_neg (nI_ge (by omega) (by omega))]
    have e1 : (57 + 3 * nI f : Int32) = nI (57 + 3 * f) := by rw [show (3 : Int32) = nI 3 from rfl, pk_mul, show (57 : Int32) = nI 57 from rfl, nI_add]
    have e2 : (nI (57 + 3 * f) + 1 : Int32) = nI (58 + 3 * f) := by rw [nI_1]; congr 1; omega
    have e3 : (nI (57 + 3 * f) + 2 : Int32) = nI (59 + 3 * f) := by rw [show (2 : Int32) = nI 2 from rfl, nI_add]; congr 1; omega
    rw [hw]
    by_cases c1 : nI f = w
    · rw [if_pos c1]
      exact go v hv (by simp [fe1, hit, c1])
    · rw [if_neg c1, e1, e2, m_get h (by omega), bnd_some]
      by_cases c2 : g (58 + 3 * f) = nI d
      · rw [if_pos c2, e3, m_get h (by omega), bnd_some]
        by_cases c3 : g (59 + 3 * f) = nI m
        · rw [if_pos c3, m_get h (by omega), bnd_some]
          have hr := hfe f (by omega)
          by_cases c4 : g (57 + 3 * f) = 0
          · rw [if_pos c4, half_nI (by omega)]
            refine go _ (by omega) ?_
            have : ix (g (57 + 3 * f)) = 0 := by rw [c4]; rfl
            simp [fe1, hit, c1, c2, c3, feastN, this]
          · rw [if_neg c4, m_more x hv, bnd_some]
            refine go _ (by omega) ?_
            have : ¬ ix (g (57 + 3 * f)) = 0 := fun q => c4 (by rw [hr.1, q]; rfl)
            simp [fe1, hit, c1, c2, c3, feastN, this]
        · rw [if_neg c3]
          exact go v hv (by simp [fe1, hit, c3])
      · rw [if_neg c2]
        exact go v hv (by simp [fe1, hit, c2])
theorem m_onDay {x : St} {b m d v : Nat} {g : Nat → Int32} {w : Int32} (h : MV x b g) (hF : rg 10 (g 3)) (hfe : ∀ i, i < ix (g 3) → rg 1 (g (57 + 3 * i))) (hk : rg 5 (g (7 + 3 * m))) (hw : gi x 100 13 = w) (hm : m ≤ 6) (hd : d ≤ 99) (hv : v ≤ 99) : ff_MO_onDay x 100 (nI m) (nI v) (nI d) = some (nI (dayN g w m v d), x) := by
  unfold ff_MO_onDay
  have e1 : (7 + 3 * nI m : Int32) = nI (7 + 3 * m) := by rw [show (3 : Int32) = nI 3 from rfl, pk_mul, show (7 : Int32) = nI 7 from rfl, nI_add]
  have hF2 := hF.2
  have hs := stepN_le (ix (g (7 + 3 * m))) v d
  rw [e1, m_get h (by omega), bnd_some]
  have hk1 := hk.1
  rw [hk1, m_step x hk.2 (by omega) (by omega), bnd_some]
  exact m_onDayL h hF hfe hw hm hd (ix (g 3)) FU 0 _ (by omega) (by unfold FU; omega) (by omega)
