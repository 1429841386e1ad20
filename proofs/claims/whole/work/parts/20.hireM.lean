/-! hiring: the reference -/
def TV (x : St) (g : Nat → Int32) : Prop := ∀ j, j < 6 → gi x 106 j = tiF g j
theorem GF_only {q : Nat} {x y : St} {g : Nat → Int32} {w : Int32} (h : GF g w x) (ho : only q x y) (hq : q ≠ 105) : GF g w y := fun m hm e he => by rw [ho.1 _ _ (fun z => hq z.symm)]; exact h m hm e he
theorem m_need96 {x : St} {b p j : Nat} {g : Nat → Int32} (hI : InvG g) (hV : MV x b g) (hp : p < ix (g 2)) (hnl : lasB g p = false) (hj : j < 6) (hx : gi x 106 j = TI g j p) (K1 : St → Nat → Int32 → Option (Unit × St)) (K : St → Nat → Int32 → Int32 → Option (Unit × St)) :
    ff_MO_findNeeds_96 K1 K x 100 (nI p) (nI j) (nI (tlN g p)) = K (si x 106 j (TI g j (p + 1))) 100 (nI p) (nI (j + 1)) := by
  have hP2 := hI.1.2.2.1.2
  have hJ2 := hI.1.2.1.2
  obtain ⟨r1, -⟩ := hI.2.2.2.1 p hp
  have r12 := r1.2
  have h64 : 2 ^ ix (g 1) ≤ 2 ^ 6 := Nat.pow_le_pow_right (by decide) hJ2
  unfold ff_MO_findNeeds_96
  rw [show (49 + 2 * nI p : Int32) = nI (49 + 2 * p) from lin 49 2 p, m_getN hV (by omega) r1, bnd_some, show rf 100 15 = 106 from rfl, show ln 106 = 6 from rfl, if_pos (ixb_nI (n := j) (by omega) (by omega)), ix_nI (by omega), hx, nI_1, TI_s, hnl]
  cases q : bN (ix (g (49 + 2 * p))) j with
  | false =>
    rw [if_neg (fun z => by rw [bt_1 (by omega) (by omega), q] at z; cases z)]
    repeat rw [if_pos (ixb_nI (n := j) (N := 6) (by omega) (by omega))]
    rw [st_eq]; rfl
  | true =>
    rw [if_pos ((bt_1 (by omega) (by omega)).mpr q)]
    show _ = K (si x 106 j (imax (TI g j p) (nI (tlN g p)))) 100 (nI p) (nI (j + 1))
    unfold imax
    by_cases c : nI (tlN g p) ≤ TI g j p
    · rw [if_pos c, if_pos (ixb_nI (n := j) (by omega) (by omega)), if_pos (ixb_nI (n := j) (by omega) (by omega)), st_eq, if_neg (Int32.not_lt.mpr c)]
    · rw [if_neg c, if_pos (ixb_nI (n := j) (by omega) (by omega)), st_eq, if_pos (Int32.not_le.mp c)]
theorem m_needL {b p : Nat} {g : Nat → Int32} (hI : InvG g) (hp : p < ix (g 2)) (hnl : lasB g p = false) (K : St → Nat → Int32 → Option (Unit × St)) : ∀ (n N j : Nat) (x : St), j + n = ix (g 1) → n < N → MV x b g → (∀ i, i < j → gi x 106 i = TI g i (p + 1)) → (∀ i, j ≤ i → i < 6 → gi x 106 i = TI g i p) →
    ∃ y, ff_MO_findNeeds_47 K N x 100 (nI p) (nI j) = K y 100 (nI (p + 1)) ∧ only 106 x y ∧ ∀ i, i < 6 → gi y 106 i = TI g i (p + 1) := by
  have hJ := hI.1.2.1
  have hJ2 := hJ.2
  have hP2 := hI.1.2.2.1.2
  have hd := hI.1.2.2.2.2.2.1
  have hd2 := hd.2
  obtain ⟨-, -, r3⟩ := hI.2.2.2.1 p hp
  have r32 := r3.2
  intro n
  induction n with
  | zero =>
    intro N j x hj hN hV h1 h2
    obtain ⟨N, rfl⟩ : ∃ K, N = K + 1 := ⟨N - 1, by omega⟩
    refine ⟨x, ?_, only_rf, fun i hi => ?_⟩
    · show bnd (ff_MO_get x 100 (nI 1)) _ = _
      rw [m_getN hV (by decide) hJ, bnd_some, if_pos (nI_le (by omega) (by omega)), nI_1]
    · by_cases c : i < j
      · exact h1 i c
      · rw [h2 i (by omega) hi, TI_out hI (by omega) p (by omega), TI_out hI (by omega) (p + 1) (by omega)]
  | succ n ih =>
    intro N j x hj hN hV h1 h2
    obtain ⟨N, rfl⟩ : ∃ K, N = K + 1 := ⟨N - 1, by omega⟩
    have hV2 : MV (si x 106 j (TI g j (p + 1))) b g := MV_only hV (only_si _ _ _ _) (by decide) (by decide)
    obtain ⟨y, y1, y2, y3⟩ := ih N (j + 1) (si x 106 j (TI g j (p + 1))) (by omega) (by omega) hV2 (fun i hi => by
      by_cases e : i = j
      · subst e; exact gi_si_s _ _ _ _
      · rw [gi_si_n _ _ _ _ (fun z => e z.2)]; exact h1 i (by omega)) (fun i a c => by rw [gi_si_n _ _ _ _ (by omega)]; exact h2 i (by omega) c)
    refine ⟨y, ?_, only_tr (only_si _ _ _ _) y2, y3⟩
    rw [← y1]
    show bnd (ff_MO_get x 100 (nI 1)) _ = _
    rw [m_getN hV (by decide) hJ, bnd_some, if_neg (nI_ge (by omega) (by omega)), show (49 + 2 * nI p + 1 : Int32) = nI (50 + 2 * p) from by rw [show (49 + 2 * nI p : Int32) = nI (49 + 2 * p) from lin 49 2 p, nI_1]; congr 1; omega, m_getN hV (by omega) r3, bnd_some, show (5 : Int32) = nI 5 from rfl, m_getN hV (by decide) hd, bnd_some]
    have key := m_need96 hI hV hp hnl (j := j) (by omega) (h2 j (by omega) (by omega)) K (ff_MO_findNeeds_47 K N)
    by_cases z : ix (g (50 + 2 * p)) ≤ ix (g 5)
    · rw [if_pos (nI_le z (by omega)), m_getN hV (by decide) hd, bnd_some]
      rw [show tlN g p = ix (g 5) from by unfold tlN; omega] at key
      exact key
    · rw [if_neg (nI_ge (by omega) (by omega)), m_getN hV (by omega) r3, bnd_some]
      rw [show tlN g p = ix (g (50 + 2 * p)) from by unfold tlN; omega] at key
      exact key
theorem m_needP {b : Nat} {g : Nat → Int32} (hI : InvG g) : ∀ (n N p : Nat) (x : St), p + n = ix (g 2) → n < N → MV x b g → GF g (-1) x → (∀ i, i < 6 → gi x 106 i = TI g i p) → ∃ y, ff_MO_findNeeds_28 N x 100 (nI p) = some ((), y) ∧ only 106 x y ∧ TV y g := by
  have hP := hI.1.2.2.1
  have hP2 := hP.2
  have hJ2 := hI.1.2.1.2
  intro n
  induction n with
  | zero =>
    intro N p x hp hN hV hG h1
    obtain ⟨N, rfl⟩ : ∃ K, N = K + 1 := ⟨N - 1, by omega⟩
    refine ⟨x, ?_, only_rf, fun i hi => by rw [h1 i hi]; unfold tiF; congr 1⟩
    show bnd (ff_MO_get x 100 (nI 2)) _ = _
    rw [m_getN hV (by decide) hP, bnd_some, if_pos (nI_le (by omega) (by omega))]
  | succ n ih =>
    intro N p x hp hN hV hG h1
    obtain ⟨N, rfl⟩ : ∃ K, N = K + 1 := ⟨N - 1, by omega⟩
    show ∃ y, bnd (ff_MO_get x 100 (nI 2)) _ = _ ∧ _
    rw [m_getN hV (by decide) hP, bnd_some, if_neg (nI_ge (by omega) (by omega)), m_isLasting hI hV hG (by omega), bnd_some]
    cases q : lasB g p with
    | true =>
      rw [show b32 true = 1 from rfl, if_neg (by decide), nI_1]
      exact ih N (p + 1) x (by omega) (by omega) hV hG (fun i hi => by rw [h1 i hi, TI_s, q]; rfl)
    | false =>
      rw [show b32 false = 0 from rfl, if_pos rfl]
      obtain ⟨y, y1, y2, y3⟩ := m_needL (b := b) hI (p := p) (by omega) q (ff_MO_findNeeds_28 N) (ix (g 1)) FU 0 x (by omega) (by unfold FU; omega) hV (fun i hi => absurd hi (Nat.not_lt_zero i)) (fun i _ hi => h1 i hi)
      obtain ⟨z, z1, z2, z3⟩ := ih N (p + 1) y (by omega) (by omega) (MV_only hV y2 (by decide) (by decide)) (GF_only hG y2 (by decide)) y3
      exact ⟨z, y1.trans z1, only_tr y2 z2, z3⟩
theorem m_need7 {b : Nat} {g : Nat → Int32} (hI : InvG g) : ∀ (n N j : Nat) (x : St), j + n = 6 → n < N → MV x b g → GF g (-1) x → (∀ i, i < j → gi x 106 i = -1) → ∃ y, ff_MO_findNeeds_7 N x 100 (nI j) = some ((), y) ∧ only 106 x y ∧ TV y g := by
  have hP2 := hI.1.2.2.1.2
  intro n
  induction n with
  | zero =>
    intro N j x hj hN hV hG h1
    obtain ⟨N, rfl⟩ : ∃ K, N = K + 1 := ⟨N - 1, by omega⟩
    obtain ⟨y, y1, y2, y3⟩ := m_needP (b := b) hI (ix (g 2)) FU 0 x (by omega) (by unfold FU; omega) hV hG (fun i hi => h1 i (by omega))
    refine ⟨y, ?_, y2, y3⟩
    rw [← y1]
    show (if (6 : Int32) ≤ nI j then _ else _) = _
    rw [if_pos (show (6 : Int32) ≤ nI j from nI_le (a := 6) (by omega) (by omega))]; rfl
  | succ n ih =>
    intro N j x hj hN hV hG h1
    obtain ⟨N, rfl⟩ : ∃ K, N = K + 1 := ⟨N - 1, by omega⟩
    obtain ⟨y, y1, y2, y3⟩ := ih N (j + 1) (si x 106 j (-1)) (by omega) (by omega) (MV_only hV (only_si _ _ _ _) (by decide) (by decide)) (GF_only hG (only_si _ _ _ _) (by decide)) (fun i hi => by
      by_cases e : i = j
      · subst e; exact gi_si_s _ _ _ _
      · rw [gi_si_n _ _ _ _ (fun z => e z.2)]; exact h1 i (by omega))
    refine ⟨y, ?_, only_tr (only_si _ _ _ _) y2, y3⟩
    rw [← y1]
    show (if (6 : Int32) ≤ nI j then _ else _) = _
    rw [if_neg (show ¬ (6 : Int32) ≤ nI j from nI_ge (b := 6) (by omega) (by decide)), show rf 100 15 = 106 from rfl, show ln 106 = 6 from rfl, if_pos (ixb_nI (by omega) (by omega)), ix_nI (by omega), st_eq, nI_1]
theorem m_whL {x : St} {b j a : Nat} {g : Nat → Int32} {c : Int32} (hI : InvG g) (hV : MV x b g) (hG : GF g (-1) x) (hT : TV x g) (hj : j < ix (g 1)) (ha : a < ix (g 0)) (hc : c = -1 ∨ (rg 5 c ∧ ix c < ix (g 0))) {t : Nat} (ht : tiF g j = nI t) (ht2 : t ≤ 99) : ∀ (n N d : Nat) (v : Bool), d + n = t + 1 → n < N → ff_MO_wouldHold_10 N x 100 (nI j) (nI a) c (b32 v) (nI d) = some (b32 (v && allU (fun e => decide (ix (g (25 + 4 * j)) ≤ SG g (-1) a c e)) d n), x) := by
  have hJ2 := hI.1.2.1.2
  obtain ⟨hl, -⟩ := hI.2.2.1 j hj
  have hl2 := hl.2
  intro n
  induction n with
  | zero =>
    intro N d v hd hN
    obtain ⟨N, rfl⟩ : ∃ K, N = K + 1 := ⟨N - 1, by omega⟩
    show (if ixb (nI j) (ln (rf 100 15)) = true then _ else _) = _
    rw [show rf 100 15 = 106 from rfl, show ln 106 = 6 from rfl, if_pos (ixb_nI (by omega) (by omega)), ix_nI (by omega), hT j (by omega), ht, if_pos (nI_lt (by omega) (by omega))]
    cases v <;> rfl
  | succ n ih =>
    intro N d v hd hN
    obtain ⟨N, rfl⟩ : ∃ K, N = K + 1 := ⟨N - 1, by omega⟩
    have i0 := ih N (d + 1) false (by omega) (by omega)
    have i1 := ih N (d + 1) true (by omega) (by omega)
    show (if ixb (nI j) (ln (rf 100 15)) = true then _ else _) = some (b32 (v && (decide (ix (g (25 + 4 * j)) ≤ SG g (-1) a c d) && allU (fun e => decide (ix (g (25 + 4 * j)) ≤ SG g (-1) a c e)) (d + 1) n)), x)
    rw [show rf 100 15 = 106 from rfl, show ln 106 = 6 from rfl, if_pos (ixb_nI (by omega) (by omega)), ix_nI (by omega), hT j (by omega), ht, if_neg (nI_nlt (by omega) (by omega)), nI_1]
    cases v with
    | false =>
      rw [show b32 false = 0 from rfl, if_pos rfl]
      exact i0
    | true =>
      have hs := SG_le (w := -1) hI ha hc d
      rw [show b32 true = 1 from rfl, if_neg (by decide), m_strength hI hG ha hc (by omega), bnd_some, show (25 + 4 * nI j : Int32) = nI (25 + 4 * j) from lin 25 4 j, m_getN hV (by omega) hl, bnd_some]
      by_cases z : ix (g (25 + 4 * j)) ≤ SG g (-1) a c d
      · rw [if_neg (nI_nlt z (by omega)), decide_eq_true z]
        exact i1
      · rw [if_pos (nI_lt (by omega) (by omega)), decide_eq_false z]
        exact i0
theorem m_wouldHold {x : St} {b j a : Nat} {g : Nat → Int32} {c : Int32} (hI : InvG g) (hV : MV x b g) (hG : GF g (-1) x) (hT : TV x g) (hj : j < ix (g 1)) (hn : ¬ tiF g j = -1) (ha : a < ix (g 0)) (hc : c = -1 ∨ (rg 5 c ∧ ix c < ix (g 0))) : ff_MO_wouldHold x 100 (nI j) (nI a) c = some (b32 (WHB g j a c (ix (tiF g j))), x) := by
  have hd := hI.1.2.2.2.2.2.1
  have hd2 := hd.2
  obtain ⟨t, t1, t2, t3⟩ := (TI_ok hI j (ix (g 2)) (Nat.le_refl _)).resolve_left hn
  have t3' : tiF g j = nI t := t3
  have key := m_whL hI hV hG hT hj ha hc t3' t1 (t + 1 - ix (g 5)) FU (ix (g 5)) true (by omega) (by unfold FU; omega)
  unfold ff_MO_wouldHold WHB
  rw [show (5 : Int32) = nI 5 from rfl, m_getN hV (by decide) hd, bnd_some, t3', ix_nI (by omega)]
  rw [Bool.true_and] at key
  exact key
theorem m_who3 {x : St} {b j z a : Nat} {g : Nat → Int32} (hI : InvG g) (hV : MV x b g) (hG : GF g (-1) x) (hT : TV x g) (hz : z < 2 ^ 31) (hj : j < ix (g 1)) (hn : ¬ tiF g j = -1) (ha : a < ix (g 0)) {rest : Int32} (K : St → Nat → Int32 → Int32 → Int32 → Option (Int32 × St)) (hK : K x 100 (nI j) (nI z) (nI (a + 1)) = some (rest, x)) : ∀ (n N b' : Nat), b' + n = ix (g 0) → n < N → a < b' → ff_MO_whoOf_57 K N x 100 (nI j) (nI z) (nI a) (nI b') = some (who3 g j z a rest b' n, x) := by
  have hM := hI.1.1
  have hM2 := hM.2
  intro n
  induction n with
  | zero =>
    intro N b' hb hN hab
    obtain ⟨N, rfl⟩ : ∃ K, N = K + 1 := ⟨N - 1, by omega⟩
    show bnd (ff_MO_get x 100 (nI 0)) _ = _
    rw [m_getN hV (by decide) hM, bnd_some, if_pos (nI_le (by omega) (by omega)), nI_1, hK]; rfl
  | succ n ih =>
    intro N b' hb hN hab
    obtain ⟨N, rfl⟩ : ∃ K, N = K + 1 := ⟨N - 1, by omega⟩
    have ih2 := ih N (b' + 1) (by omega) (by omega) (by omega)
    show bnd (ff_MO_get x 100 (nI 0)) _ = some (if (bN z a && (bN z b' && fB g j a b')) = true then nI (10 * a + b') else who3 g j z a rest (b' + 1) n, x)
    rw [m_getN hV (by decide) hM, bnd_some, if_neg (nI_ge (by omega) (by omega)), nI_1]
    cases q : bN z a with
    | false =>
      rw [if_neg (fun y => by rw [bt_1 hz (by omega), q] at y; cases y), ih2]; rfl
    | true =>
      rw [if_pos ((bt_1 hz (by omega)).mpr q)]
      cases q2 : bN z b' with
      | false =>
        rw [if_neg (fun y => by rw [bt_1 hz (by omega), q2] at y; cases y), ih2]; rfl
      | true =>
        have hf : fB g j a b' = WHB g j a (nI b') (ix (tiF g j)) := by unfold fB; rw [if_neg (by omega)]
        rw [if_pos ((bt_1 hz (by omega)).mpr q2), m_wouldHold hI hV hG hT hj hn ha (Or.inr ⟨rg_nI (by omega) (by omega), by rw [ix_nI (by omega)]; omega⟩), bnd_some, ← hf]
        cases q3 : fB g j a b' with
        | false =>
          rw [show b32 false = 0 from rfl, if_pos rfl, ih2]; rfl
        | true =>
          unfold ff_MO_whoOf_97
          rw [show b32 true = 1 from rfl, if_neg (by decide), show (10 * nI a + nI b' : Int32) = nI (10 * a + b') from by rw [show (10 : Int32) = nI 10 from rfl, pk_mul, nI_add]]; rfl
theorem m_who2 {x : St} {b j z : Nat} {g : Nat → Int32} (hI : InvG g) (hV : MV x b g) (hG : GF g (-1) x) (hT : TV x g) (hz : z < 2 ^ 31) (hj : j < ix (g 1)) (hn : ¬ tiF g j = -1) : ∀ (n N a : Nat), a + n = ix (g 0) → n < N → ff_MO_whoOf_43 N x 100 (nI j) (nI z) (nI a) = some (who2 g j z a n, x) := by
  have hM := hI.1.1
  have hM2 := hM.2
  intro n
  induction n with
  | zero =>
    intro N a ha hN
    obtain ⟨N, rfl⟩ : ∃ K, N = K + 1 := ⟨N - 1, by omega⟩
    show bnd (ff_MO_get x 100 (nI 0)) _ = _
    rw [m_getN hV (by decide) hM, bnd_some, if_pos (nI_le (by omega) (by omega))]; rfl
  | succ n ih =>
    intro N a ha hN
    obtain ⟨N, rfl⟩ : ∃ K, N = K + 1 := ⟨N - 1, by omega⟩
    show bnd (ff_MO_get x 100 (nI 0)) _ = some (who3 g j z a (who2 g j z (a + 1) n) (a + 1) (ix (g 0) - (a + 1)), x)
    rw [m_getN hV (by decide) hM, bnd_some, if_neg (nI_ge (by omega) (by omega)), nI_1]
    exact m_who3 hI hV hG hT hz hj hn (by omega) (ff_MO_whoOf_43 N) (ih N (a + 1) (by omega) (by omega)) (ix (g 0) - (a + 1)) FU (a + 1) (by omega) (by unfold FU; omega) (by omega)
theorem m_who1 {x : St} {b j z : Nat} {g : Nat → Int32} (hI : InvG g) (hV : MV x b g) (hG : GF g (-1) x) (hT : TV x g) (hz : z < 2 ^ 31) (hj : j < ix (g 1)) (hn : ¬ tiF g j = -1) : ∀ (n N a : Nat), a + n = ix (g 0) → n < N → ff_MO_whoOf_2 N x 100 (nI j) (nI z) (nI a) = some (who1 g j z a n, x) := by
  have hM := hI.1.1
  have hM2 := hM.2
  intro n
  induction n with
  | zero =>
    intro N a ha hN
    obtain ⟨N, rfl⟩ : ∃ K, N = K + 1 := ⟨N - 1, by omega⟩
    show bnd (ff_MO_get x 100 (nI 0)) _ = _
    rw [m_getN hV (by decide) hM, bnd_some, if_pos (nI_le (by omega) (by omega))]
    exact m_who2 hI hV hG hT hz hj hn (ix (g 0)) FU 0 (by omega) (by unfold FU; omega)
  | succ n ih =>
    intro N a ha hN
    obtain ⟨N, rfl⟩ : ∃ K, N = K + 1 := ⟨N - 1, by omega⟩
    have ih2 := ih N (a + 1) (by omega) (by omega)
    show bnd (ff_MO_get x 100 (nI 0)) _ = some (if (bN z a && fB g j a a) = true then nI (60 + a) else who1 g j z (a + 1) n, x)
    rw [m_getN hV (by decide) hM, bnd_some, if_neg (nI_ge (by omega) (by omega)), nI_1]
    cases q : bN z a with
    | false =>
      rw [if_neg (fun y => by rw [bt_1 hz (by omega), q] at y; cases y), ih2]; rfl
    | true =>
      have hf : fB g j a a = WHB g j a (-1) (ix (tiF g j)) := by unfold fB; rw [if_pos rfl]
      rw [if_pos ((bt_1 hz (by omega)).mpr q), m_wouldHold hI hV hG hT hj hn (by omega) (Or.inl rfl), bnd_some, ← hf]
      cases q3 : fB g j a a with
      | false =>
        rw [show b32 false = 0 from rfl, if_pos rfl, ih2]; rfl
      | true =>
        rw [show b32 true = 1 from rfl, if_neg (by decide), show (60 + nI a : Int32) = nI (60 + a) from nI_add 60 a]; rfl
theorem m_whoOf {x : St} {b j z : Nat} {g : Nat → Int32} (hI : InvG g) (hV : MV x b g) (hG : GF g (-1) x) (hT : TV x g) (hz : z < 2 ^ 31) (hj : j < ix (g 1)) (hn : ¬ tiF g j = -1) : ff_MO_whoOf x 100 (nI j) (nI z) = some (whoF g j z, x) := by
  have hM2 := hI.1.1.2
  exact m_who1 hI hV hG hT hz hj hn (ix (g 0)) FU 0 (by omega) (by unfold FU; omega)
theorem m_priceL {x : St} {b z : Nat} {g : Nat → Int32} (hI : InvG g) (hV : MV x b g) (hz : z < 2 ^ 31) : ∀ (n N m v : Nat), m + n = ix (g 0) → n < N → ff_MO_priceOf_4 N x 100 (nI z) (nI v) (nI m) = some (nI (prU g z m n v), x) := by
  have hM := hI.1.1
  have hM2 := hM.2
  intro n
  induction n with
  | zero =>
    intro N m v hm hN
    obtain ⟨N, rfl⟩ : ∃ K, N = K + 1 := ⟨N - 1, by omega⟩
    show bnd (ff_MO_get x 100 (nI 0)) _ = _
    rw [m_getN hV (by decide) hM, bnd_some, if_pos (nI_le (by omega) (by omega))]; rfl
  | succ n ih =>
    intro N m v hm hN
    obtain ⟨N, rfl⟩ : ∃ K, N = K + 1 := ⟨N - 1, by omega⟩
    obtain ⟨-, -, k3⟩ := hI.2.1 m (by omega)
    show bnd (ff_MO_get x 100 (nI 0)) _ = some (nI (prU g z (m + 1) n (if bN z m = true then v + ix (g (9 + 3 * m)) else v)), x)
    rw [m_getN hV (by decide) hM, bnd_some, if_neg (nI_ge (by omega) (by omega)), show (7 + 3 * nI m + 2 : Int32) = nI (9 + 3 * m) from by rw [show (7 + 3 * nI m : Int32) = nI (7 + 3 * m) from lin 7 3 m, show (2 : Int32) = nI 2 from rfl, nI_add]; congr 1; omega, m_getN hV (by omega) k3, bnd_some, li_eq, nI_1, bt_nI hz (by omega), pk_mul, nI_add, ih N (m + 1) _ (by omega) (by omega)]
    congr 4
    unfold bN
    by_cases c : z / 2 ^ m % 2 = 1
    · rw [c]; simp
    · rw [show z / 2 ^ m % 2 = 0 by omega]; simp
theorem m_priceOf {x : St} {b z : Nat} {g : Nat → Int32} (hI : InvG g) (hV : MV x b g) (hz : z < 2 ^ 31) : ff_MO_priceOf x 100 (nI z) = some (nI (prF g z), x) := by
  have hM2 := hI.1.1.2
  exact m_priceL hI hV hz (ix (g 0)) FU 0 0 (by omega) (by unfold FU; omega)
theorem m_h68 {x : St} {b z : Nat} {g : Nat → Int32} {but best : Int32} (hI : InvG g) (hV : MV x b g) (hG : GF g (-1) x) (hT : TV x g) (hz : z < 2 ^ 31) (K : St → Nat → Int32 → Int32 → Int32 → Option (Int32 × St)) : ∀ (n N j : Nat) (v : Bool), j + n = ix (g 1) → n < N → ff_MO_hired_68 K N x 100 but best (nI z) (b32 v) (nI j) = ff_MO_hired_118 K x 100 but best (nI z) (b32 (v && allU (fun j => decide (tiF g j = -1 ∨ ¬ whoF g j z = -1)) j n)) := by
  have hJ := hI.1.2.1
  have hJ2 := hJ.2
  intro n
  induction n with
  | zero =>
    intro N j v hj hN
    obtain ⟨N, rfl⟩ : ∃ K, N = K + 1 := ⟨N - 1, by omega⟩
    show bnd (ff_MO_get x 100 (nI 1)) _ = _
    rw [m_getN hV (by decide) hJ, bnd_some, if_pos (nI_le (by omega) (by omega))]
    cases v <;> rfl
  | succ n ih =>
    intro N j v hj hN
    obtain ⟨N, rfl⟩ : ∃ K, N = K + 1 := ⟨N - 1, by omega⟩
    have i0 := ih N (j + 1) false (by omega) (by omega)
    have i1 := ih N (j + 1) true (by omega) (by omega)
    show bnd (ff_MO_get x 100 (nI 1)) _ = ff_MO_hired_118 K x 100 but best (nI z) (b32 (v && (decide (tiF g j = -1 ∨ ¬ whoF g j z = -1) && allU (fun j => decide (tiF g j = -1 ∨ ¬ whoF g j z = -1)) (j + 1) n)))
    rw [m_getN hV (by decide) hJ, bnd_some, if_neg (nI_ge (by omega) (by omega)), nI_1]
    cases v with
    | false =>
      rw [show b32 false = 0 from rfl, if_pos rfl]; rfl
    | true =>
      rw [show b32 true = 1 from rfl, if_neg (by decide), show rf 100 15 = 106 from rfl, show ln 106 = 6 from rfl, if_pos (ixb_nI (by omega) (by omega)), ix_nI (by omega), hT j (by omega)]
      by_cases c : tiF g j = -1
      · rw [if_pos c, decide_eq_true (Or.inl c)]
        exact i1
      · rw [if_neg c, m_whoOf hI hV hG hT hz (by omega) c, bnd_some]
        by_cases c2 : whoF g j z = -1
        · rw [if_pos c2, decide_eq_false (fun q => q.elim c (fun y => y c2))]
          exact i0
        · rw [if_neg c2, decide_eq_true (Or.inr c2)]
          exact i1
theorem m_chL {x : St} {b : Nat} {g : Nat → Int32} {but : Int32} (hI : InvG g) (hV : MV x b g) (hG : GF g (-1) x) (hT : TV x g) (hb : but = -1 ∨ (but = nI (ix but) ∧ ix but < 6)) : ∀ (n N z : Nat) (best : Int32), z + n = 2 ^ ix (g 0) → n < N → (best = -1 ∨ ∃ k, k < 64 ∧ best = nI k) → ff_MO_hired_4 N x 100 but best (nI z) = some (chU g but z n best, x) := by
  have hM := hI.1.1
  have hM2 := hM.2
  have hJ2 := hI.1.2.1.2
  have h64 : 2 ^ ix (g 0) ≤ 2 ^ 6 := Nat.pow_le_pow_right (by decide) hM2
  intro n
  induction n with
  | zero =>
    intro N z best hz hN hB
    obtain ⟨N, rfl⟩ : ∃ K, N = K + 1 := ⟨N - 1, by omega⟩
    show bnd (ff_MO_get x 100 (nI 0)) _ = _
    rw [m_getN hV (by decide) hM, bnd_some, sh_nI (by omega), if_pos (nI_le (by omega) (by omega))]; rfl
  | succ n ih =>
    intro N z best hz hN hB
    obtain ⟨N, rfl⟩ : ∃ K, N = K + 1 := ⟨N - 1, by omega⟩
    have hpl := prF_le hI z
    have h118 : ∀ v : Bool, v = okS g but best z → ff_MO_hired_118 (ff_MO_hired_4 N) x 100 but best (nI z) (b32 v) = some (chU g but z (n + 1) best, x) := by
      intro v hv
      unfold ff_MO_hired_118
      show _ = some (chU g but (z + 1) n (if okS g but best z = true then nI z else best), x)
      rw [← hv]
      cases v with
      | false =>
        rw [show b32 false = 0 from rfl, if_pos rfl, nI_1, ih N (z + 1) best (by omega) (by omega) hB]; rfl
      | true =>
        rw [show b32 true = 1 from rfl, if_neg (by decide), nI_1, ih N (z + 1) (nI z) (by omega) (by omega) (Or.inr ⟨z, by omega, rfl⟩)]; rfl
    have hen : enB g z = allU (fun j => decide (tiF g j = -1 ∨ ¬ whoF g j z = -1)) 0 (ix (g 1)) := by
      have := allU_ext (c := fun j => decide (tiF g j = -1 ∨ ¬ whoF g j z = -1)) (6 - ix (g 1)) (ix (g 1)) 0 (fun i h1 h2 => decide_eq_true (Or.inl (TI_out hI (by omega) (ix (g 2)) (Nat.le_refl _))))
      rw [show ix (g 1) + (6 - ix (g 1)) = 6 by omega] at this
      exact this
    have h68 : ∀ v : Bool, (v && enB g z) = okS g but best z → ff_MO_hired_68 (ff_MO_hired_4 N) FU x 100 but best (nI z) (b32 v) 0 = some (chU g but z (n + 1) best, x) := by
      intro v hv
      have := m_h68 (but := but) (best := best) hI hV hG hT (z := z) (by omega) (ff_MO_hired_4 N) (ix (g 1)) FU 0 v (by omega) (by unfold FU; omega)
      rw [← hen] at this
      exact this.trans (h118 _ hv)
    have h33 : ∀ v : Bool, v = decide (but = -1 ∨ bN z (ix but) = false) → ff_MO_hired_33 (ff_MO_hired_4 N) x 100 but best (nI z) (b32 v) = some (chU g but z (n + 1) best, x) := by
      intro v hv
      unfold ff_MO_hired_33
      cases v with
      | false =>
        rw [show b32 false = 0 from rfl, if_pos rfl]
        exact h68 false (by unfold okS; rw [← hv]; rfl)
      | true =>
        rw [show b32 true = 1 from rfl, if_neg (by decide)]
        rcases hB with rfl | ⟨k, k1, rfl⟩
        · rw [if_pos rfl]
          exact h68 true (by unfold okS; rw [← hv]; simp)
        · have hpk := prF_le hI k
          rw [if_neg (nI_ne_m1 (by omega)), m_priceOf hI hV (by omega), bnd_some, m_priceOf hI hV (by omega), bnd_some]
          by_cases c : prF g k ≤ prF g z
          · rw [if_pos (nI_le c (by omega))]
            refine h68 false ?_
            unfold okS
            have : decide (nI k = -1 ∨ prF g z < prF g (ix (nI k))) = false := by
              rw [decide_eq_false_iff_not, ix_nI (by omega)]
              rintro (y | y)
              · exact nI_ne_m1 (by omega) y
              · omega
            rw [this]; simp
          · rw [if_neg (nI_ge (by omega) (by omega))]
            refine h68 true ?_
            unfold okS
            have : decide (nI k = -1 ∨ prF g z < prF g (ix (nI k))) = true := by
              rw [decide_eq_true_eq, ix_nI (by omega)]
              exact Or.inr (by omega)
            rw [← hv, this]; rfl
    show bnd (ff_MO_get x 100 (nI 0)) _ = _
    rw [m_getN hV (by decide) hM, bnd_some, sh_nI (by omega), if_neg (nI_ge (by omega) (by omega))]
    unfold ff_MO_hired_28
    rcases hb with rfl | ⟨b1, b2⟩
    · rw [if_pos rfl]
      exact h33 true (by simp)
    · have bn : ¬ but = -1 := by rw [b1]; exact nI_ne_m1 (by omega)
      rw [if_neg bn]
      cases q : bN z (ix but) with
      | false =>
        rw [if_pos (by rw [b1]; exact (bt_0 (by omega) (by omega)).mpr q)]
        exact h33 true (by simp [q])
      | true =>
        rw [if_neg (by rw [b1]; exact fun y => by rw [bt_0 (by omega) (by omega), q] at y; cases y)]
        exact h33 false (by simp [q, bn])
theorem m_hired {x : St} {b : Nat} {g : Nat → Int32} {but : Int32} (hI : InvG g) (hV : MV x b g) (hG : GF g (-1) x) (hT : TV x g) (hb : but = -1 ∨ (but = nI (ix but) ∧ ix but < 6)) : ff_MO_hired x 100 but = some (chF g but, x) := by
  have hM2 := hI.1.1.2
  have h64 : 2 ^ ix (g 0) ≤ 2 ^ 6 := Nat.pow_le_pow_right (by decide) hM2
  exact m_chL hI hV hG hT hb (2 ^ ix (g 0)) FU 0 (-1) (by omega) (by unfold FU; omega) (Or.inl rfl)
