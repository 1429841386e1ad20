/-! hiring: the class -/
def onlyL (L : List Nat) (x y : St) : Prop := (∀ a k, a ∉ L → gi y a k = gi x a k) ∧ ∀ a k, a ∉ L → gl y a k = gl x a k
theorem onlyL_rf {L : List Nat} {x : St} : onlyL L x x := ⟨fun _ _ _ => rfl, fun _ _ _ => rfl⟩
theorem onlyL_tr {L : List Nat} {x y z : St} (h1 : onlyL L x y) (h2 : onlyL L y z) : onlyL L x z := ⟨fun a k h => (h2.1 a k h).trans (h1.1 a k h), fun a k h => (h2.2 a k h).trans (h1.2 a k h)⟩
theorem onlyL_si {L : List Nat} {q : Nat} (k : Nat) (v : Int32) (x : St) (h : q ∈ L) : onlyL L x (si x q k v) := ⟨fun a j ha => gi_si_n _ _ _ _ (fun e => ha (e.1 ▸ h)), fun _ _ _ => rfl⟩
theorem onlyL_sl {L : List Nat} {q : Nat} (k : Nat) (v : Int64) (x : St) (h : q ∈ L) : onlyL L x (sl x q k v) := ⟨fun _ _ _ => rfl, fun a j ha => by
  have hne : ¬ (a = q ∧ j = k) := fun e => ha (by rw [e.1]; exact h)
  rw [gl_sl, if_neg hne]⟩
theorem onlyL_of {L : List Nat} {q : Nat} {x y : St} (h : only q x y) (hq : q ∈ L) : onlyL L x y := ⟨fun a k ha => h.1 a k (fun e => ha (e ▸ hq)), fun a k _ => h.2 a k⟩
theorem c_fillL {q : Nat} {v : Int32} (hl : ln q < 2 ^ 20) : ∀ (n N j : Nat) (x : St), j + n = ln q → n < N → (∀ i, i < j → gi x q i = v) → ∃ y, ff_AR_fillI_5 N x q v (nI j) (nI (ln q)) = some ((), y) ∧ only q x y ∧ ∀ i, i < ln q → gi y q i = v := by
  intro n
  induction n with
  | zero =>
    intro N j x hj hN h
    obtain ⟨N, rfl⟩ : ∃ K, N = K + 1 := ⟨N - 1, by omega⟩
    refine ⟨x, ?_, only_rf, fun i hi => h i (by omega)⟩
    show (if nI (ln q) ≤ nI j then _ else _) = _
    rw [if_pos (nI_le (by omega) (by omega))]
  | succ n ih =>
    intro N j x hj hN h
    obtain ⟨N, rfl⟩ : ∃ K, N = K + 1 := ⟨N - 1, by omega⟩
    obtain ⟨y, h1, h2, h3⟩ := ih N (j + 1) (si x q j v) (by omega) (by omega) (fun i hi => by
      by_cases e : i = j
      · subst e; exact gi_si_s _ _ _ _
      · rw [gi_si_n _ _ _ _ (fun z => e z.2)]; exact h i (by omega))
    refine ⟨y, ?_, only_tr (only_si _ _ _ _) h2, h3⟩
    rw [← h1]
    show (if nI (ln q) ≤ nI j then _ else _) = _
    rw [if_neg (nI_ge (by omega) (by omega)), if_pos (ixb_nI (by omega) (by omega)), ix_nI (by omega), st_eq, nI_1]
theorem c_fillI {x : St} {q : Nat} {v : Int32} (hl : ln q < 1000) : ∃ y, ff_AR_fillI x q v = some ((), y) ∧ only q x y ∧ ∀ i, i < ln q → gi y q i = v :=
  c_fillL (by omega) (ln q) FU 0 x (by omega) (by unfold FU; omega) (fun i hi => absurd hi (Nat.not_lt_zero i))
theorem RS_only {x y : St} {s q : Nat} {g : Nat → Int32} (hM : ix (g 0) ≤ 6) (h : RS x s g) (ho : only q x y) (hq : q < s ∨ s + 20 ≤ q) : RS y s g := RS_eq hM h (fun a k h1 h2 => ho.1 a k (by omega))
theorem c_needL {s p : Nat} {g : Nat → Int32} (hs : sp s) (hI : InvG g) (hp : p < ix (g 2)) (hnl : lasB g p = false) (K : St → Nat → Nat → Int32 → Option (Unit × St)) : ∀ (n N j : Nat) (x : St), j + n = 6 → n < N → RS x s g → (∀ i, i < j → gi x 6 i = TI g i (p + 1)) → (∀ i, j ≤ i → i < 6 → gi x 6 i = TI g i p) →
    ∃ y, ff_HI_lookForNeeds_49 K N x 5 s (nI p) (nI (tlN g p)) (nI j) = K y 5 s (nI (p + 1)) ∧ only 6 x y ∧ ∀ i, i < 6 → gi y 6 i = TI g i (p + 1) := by
  have hM2 := hI.1.1.2
  have s16 : 16 ≤ s := by rcases hs with rfl | rfl | rfl | rfl <;> decide
  intro n
  induction n with
  | zero =>
    intro N j x hj hN h h1 h2
    obtain ⟨N, rfl⟩ : ∃ K, N = K + 1 := ⟨N - 1, by omega⟩
    refine ⟨x, ?_, only_rf, fun i hi => h1 i (by omega)⟩
    show (if (6 : Int32) ≤ nI j then _ else _) = _
    rw [if_pos (show (6 : Int32) ≤ nI j from nI_le (a := 6) (by omega) (by omega)), nI_1]
  | succ n ih =>
    intro N j x hj hN h h1 h2
    obtain ⟨N, rfl⟩ : ∃ K, N = K + 1 := ⟨N - 1, by omega⟩
    show ∃ y, (if (6 : Int32) ≤ nI j then _ else _) = _ ∧ _
    rw [if_neg (show ¬ (6 : Int32) ≤ nI j from nI_ge (b := 6) (by omega) (by decide)), c_isPartOf hs hI h.1 hp (by omega), bnd_some, nI_1]
    cases q : bN (ix (g (49 + 2 * p))) j with
    | false =>
      rw [show b32 false = 0 from rfl, if_pos rfl]
      exact ih N (j + 1) x (by omega) (by omega) h (fun i hi => by
        by_cases e : i = j
        · subst e; rw [h2 i (by omega) (by omega), TI_s, q, Bool.and_false, if_neg (by decide)]
        · exact h1 i (by omega)) (fun i a b => h2 i (by omega) b)
    | true =>
      rw [show b32 true = 1 from rfl, if_neg (by decide), show rf 5 0 = 6 from rfl, show ln 6 = 6 from rfl, if_pos (ixb_nI (by omega) (by omega)), if_pos (ixb_nI (by omega) (by omega)), ix_nI (by omega), st_eq]
      obtain ⟨y, y1, y2, y3⟩ := ih N (j + 1) (si x 6 j (imax (gi x 6 j) (nI (tlN g p)))) (by omega) (by omega) (RS_only hM2 h (only_si _ _ _ _) (by omega)) (fun i hi => by
        by_cases e : i = j
        · subst e; rw [gi_si_s, h2 i (by omega) (by omega), TI_s, q, hnl]; rfl
        · rw [gi_si_n _ _ _ _ (by omega)]; exact h1 i (by omega)) (fun i a b => by rw [gi_si_n _ _ _ _ (by omega)]; exact h2 i (by omega) b)
      exact ⟨y, y1, only_tr (only_si _ _ _ _) y2, y3⟩
theorem c_needP {s : Nat} {g : Nat → Int32} (hs : sp s) (hI : InvG g) : ∀ (n N p : Nat) (x : St), p + n = ix (g 2) → n < N → RS x s g → (∀ i, i < 6 → gi x 6 i = TI g i p) → ∃ y, ff_HI_lookForNeeds_10 N x 5 s (nI p) = some ((), y) ∧ only 6 x y ∧ ∀ i, i < 6 → gi y 6 i = tiF g i := by
  have hM2 := hI.1.1.2
  have hP := hI.1.2.2.1
  have hP2 := hP.2
  have hd := hI.1.2.2.2.2.2.1
  have hd2 := hd.2
  have s16 : 16 ≤ s := by rcases hs with rfl | rfl | rfl | rfl <;> decide
  intro n
  induction n with
  | zero =>
    intro N p x hp hN h h1
    obtain ⟨N, rfl⟩ : ∃ K, N = K + 1 := ⟨N - 1, by omega⟩
    refine ⟨x, ?_, only_rf, fun i hi => by rw [h1 i hi]; unfold tiF; congr 1⟩
    show (if gi x (rf s 2) 3 ≤ nI p then _ else _) = _
    rw [(sp_rf hs).2.2.1, h.1.2.1.2.2.1, hP.1, if_pos (nI_le (by omega) (by omega))]
  | succ n ih =>
    intro N p x hp hN h h1
    obtain ⟨N, rfl⟩ : ∃ K, N = K + 1 := ⟨N - 1, by omega⟩
    have hz : gi x (rf s 2) 3 = nI (ix (g 2)) := by rw [(sp_rf hs).2.2.1, h.1.2.1.2.2.1]; exact hP.1
    show ∃ y, (if gi x (rf s 2) 3 ≤ nI p then _ else _) = _ ∧ _
    rw [hz, if_neg (nI_ge (by omega) (by omega)), c_isLasting hs hI h (by omega), bnd_some]
    cases q : lasB g p with
    | true =>
      rw [show b32 true = 1 from rfl, if_neg (by decide), nI_1]
      exact ih N (p + 1) x (by omega) (by omega) h (fun i hi => by rw [h1 i hi, TI_s, q]; rfl)
    | false =>
      obtain ⟨-, -, r3⟩ := hI.2.2.2.1 p (by omega)
      have r32 := r3.2
      have e0 := at_pi hs hI h.1 (i := p) (c := 1) (by omega) (by decide)
      rw [show 49 + 2 * p + 1 = 50 + 2 * p by omega, r3.1] at e0
      rw [show b32 false = 0 from rfl, if_pos rfl, show (1 : Int32) = nI 1 from rfl, e0, bnd_some, h.1.2.1.2.2.2.2.2.1, hd.1, imax_nI (by omega) (by omega)]
      obtain ⟨y, y1, y2, y3⟩ := c_needL hs hI (p := p) (by omega) q (ff_HI_lookForNeeds_10 N) 6 FU 0 x (by omega) (by unfold FU; omega) h (fun i hi => absurd hi (Nat.not_lt_zero i)) (fun i _ hi => h1 i hi)
      obtain ⟨z, z1, z2, z3⟩ := ih N (p + 1) y (by omega) (by omega) (RS_only hM2 h y2 (by omega)) y3
      exact ⟨z, y1.trans z1, only_tr y2 z2, z3⟩
theorem c_lookForNeeds {x : St} {s : Nat} {g : Nat → Int32} (hs : sp s) (hI : InvG g) (h : RS x s g) : ∃ y, ff_HI_lookForNeeds x 5 s = some ((), y) ∧ only 6 x y ∧ ∀ i, i < 6 → gi y 6 i = tiF g i := by
  have hM2 := hI.1.1.2
  have hP2 := hI.1.2.2.1.2
  have s16 : 16 ≤ s := by rcases hs with rfl | rfl | rfl | rfl <;> decide
  obtain ⟨y, y1, y2, y3⟩ := c_fillI (x := x) (q := 6) (v := -1) (by decide)
  obtain ⟨z, z1, z2, z3⟩ := c_needP hs hI (ix (g 2)) FU 0 y (by omega) (by unfold FU; omega) (RS_only hM2 h y2 (by omega)) (fun i hi => y3 i hi)
  refine ⟨z, ?_, only_tr y2 z2, z3⟩
  unfold ff_HI_lookForNeeds
  rw [show rf 5 0 = 6 from rfl, y1, bnd_some]
  exact z1
/-- which pairs ahead of (a, b) fit, as bits -/
def fitI (g : Nat → Int32) (j a b F : Nat) : Prop := ∀ a' b', a' ≤ b' → b' < ix (g 0) → F.testBit (6 * a' + b') = ((decide (a' < a) || (decide (a' = a) && decide (b' < b))) && fB g j a' b')
theorem c_fitB {s j a : Nat} {g : Nat → Int32} (hs : sp s) (hI : InvG g) (hj : j < ix (g 1)) (ha : a < ix (g 0)) {t : Nat} (ht : tiF g j = nI t) (ht2 : t ≤ 99) (ht3 : ix (g 5) ≤ t) (K : St → Nat → Nat → Int32 → Int32 → Int64 → Int32 → Option (Int64 × St)) : ∀ (n N b F : Nat) (x : St), b + n = ix (g 0) → n < N → a ≤ b → RS x s g → gi x 5 3 = nI (ix (g 0)) → fitI g j a b F →
    ∃ F', ff_HI_fitsOf_37 K N x 5 s (nI (ix (g (25 + 4 * j)))) (nI t) (lN F) (nI a) (nI b) = K x 5 s (nI (ix (g (25 + 4 * j)))) (nI t) (lN F') (nI (a + 1)) ∧ fitI g j (a + 1) 0 F' := by
  have hM := hI.1.1
  have hM2 := hM.2
  have hd := hI.1.2.2.2.2.2.1
  obtain ⟨hl, -⟩ := hI.2.2.1 j hj
  intro n
  induction n with
  | zero =>
    intro N b F x hb hN hab h hm hF
    obtain ⟨N, rfl⟩ : ∃ K, N = K + 1 := ⟨N - 1, by omega⟩
    refine ⟨F, ?_, fun a' b' h1 h2 => ?_⟩
    · show (if gi x 5 3 ≤ nI b then _ else _) = _
      rw [hm, if_pos (nI_le (by omega) (by omega)), nI_1]
    · rw [hF a' b' h1 h2]
      congr 1
      by_cases c1 : a' < a
      · simp [c1, show a' < a + 1 by omega]
      · by_cases c2 : a' = a
        · simp [c2, show b' < b by omega]
        · simp [c1, c2, show ¬ a' < a + 1 by omega]
  | succ n ih =>
    intro N b F x hb hN hab h hm hF
    obtain ⟨N, rfl⟩ : ∃ K, N = K + 1 := ⟨N - 1, by omega⟩
    have hc : (if a = b then (-1 : Int32) else nI b) = -1 ∨ (rg 5 (if a = b then (-1 : Int32) else nI b) ∧ ix (if a = b then (-1 : Int32) else nI b) < ix (g 0)) := by
      by_cases e : a = b
      · rw [if_pos e]; exact Or.inl rfl
      · rw [if_neg e]; exact Or.inr ⟨rg_nI (by omega) (by omega), by rw [ix_nI (by omega)]; omega⟩
    have key : ∃ F', ff_HI_fitsOf_63 K (ff_HI_fitsOf_37 K N) x 5 s (nI (ix (g (25 + 4 * j)))) (nI t) (lN F) (nI a) (nI b) (if (if a = b then (-1 : Int32) else nI b) = -1 then none else some (s + 12 + ix (if a = b then (-1 : Int32) else nI b))) = K x 5 s (nI (ix (g (25 + 4 * j)))) (nI t) (lN F') (nI (a + 1)) ∧ fitI g j (a + 1) 0 F' := by
      have e2 := c_fw (d := ix (g 5)) (en := t) (load := ix (g (25 + 4 * j))) (stF_of hs hI h ha hc) hl.2 ht2 (by omega)
      have hall := fw_all (SG g (-1) a (if a = b then (-1 : Int32) else nI b)) (ix (g (25 + 4 * j))) (t + 1 - ix (g 5)) (ix (g 5))
      have hfl := fw_le (SG g (-1) a (if a = b then (-1 : Int32) else nI b)) (ix (g (25 + 4 * j))) (t + 1 - ix (g 5)) (ix (g 5))
      unfold ff_HI_fitsOf_63
      rw [c_griefsOf hs hI h.1 ha, bnd_some, h.1.2.1.2.2.2.2.2.1, hd.1, e2, bnd_some, nI_1]
      have hfb : fB g j a b = allU (fun e => decide (ix (g (25 + 4 * j)) ≤ SG g (-1) a (if a = b then (-1 : Int32) else nI b) e)) (ix (g 5)) (t + 1 - ix (g 5)) := by
        unfold fB WHB
        rw [ht, ix_nI (by omega)]
      rw [← hfb] at hall
      by_cases c : fB g j a b = true
      · have hge := hall.mpr c
        rw [if_neg (nI_ge (by omega) (by omega))]
        unfold ff_HI_pairBit
        rw [bnd_some, pairN (by omega) (by omega), fb_orL]
        refine ih N (b + 1) _ x (by omega) (by omega) (by omega) h hm (fun a' b' h1 h2 => ?_)
        rw [Nat.testBit_or, hF a' b' h1 h2, Nat.testBit_two_pow]
        by_cases e : a' = a ∧ b' = b
        · obtain ⟨rfl, rfl⟩ := e
          simp [c]
        · have hne : ¬ 6 * a + b = 6 * a' + b' := by omega
          have e3 : (decide (a' < a) || (decide (a' = a) && decide (b' < b + 1))) = (decide (a' < a) || (decide (a' = a) && decide (b' < b))) := by
            by_cases c2 : a' = a
            · have : (b' < b + 1) ↔ (b' < b) := by
                constructor
                · intro z; by_cases y : b' = b
                  · exact absurd ⟨c2, y⟩ e
                  · omega
                · intro z; omega
              simp [this]
            · simp [c2]
          rw [e3]
          simp [hne]
      · have hlt : ¬ ix (g 5) + (t + 1 - ix (g 5)) ≤ fw (SG g (-1) a (if a = b then (-1 : Int32) else nI b)) (ix (g (25 + 4 * j))) (ix (g 5)) (t + 1 - ix (g 5)) := fun z => c (hall.mp z)
        rw [if_pos (nI_le (by omega) (by omega))]
        refine ih N (b + 1) _ x (by omega) (by omega) (by omega) h hm (fun a' b' h1 h2 => ?_)
        rw [hF a' b' h1 h2]
        simp only [Bool.not_eq_true] at c
        by_cases e : a' = a ∧ b' = b
        · obtain ⟨rfl, rfl⟩ := e
          simp [c]
        · have e3 : (decide (a' < a) || (decide (a' = a) && decide (b' < b + 1))) = (decide (a' < a) || (decide (a' = a) && decide (b' < b))) := by
            by_cases c2 : a' = a
            · have : (b' < b + 1) ↔ (b' < b) := by
                constructor
                · intro z; by_cases y : b' = b
                  · exact absurd ⟨c2, y⟩ e
                  · omega
                · intro z; omega
              simp [this]
            · simp [c2]
          rw [e3]
    show ∃ F', (if gi x 5 3 ≤ nI b then _ else _) = _ ∧ _
    rw [hm, if_neg (nI_ge (by omega) (by omega))]
    by_cases e : a = b
    · rw [if_pos (by rw [e])]
      rw [if_pos e, if_pos rfl] at key
      exact key
    · have en : ¬ nI a = nI b := nI_eqn (by omega) (by omega) e
      rw [if_neg en, c_griefsOf hs hI h.1 (m := b) (by omega), bnd_some]
      rw [if_neg e, if_neg (nI_ne_m1 (by omega)), ix_nI (by omega)] at key
      exact key
theorem c_fitA {s j : Nat} {g : Nat → Int32} (hs : sp s) (hI : InvG g) (hj : j < ix (g 1)) {t : Nat} (ht : tiF g j = nI t) (ht2 : t ≤ 99) (ht3 : ix (g 5) ≤ t) : ∀ (n N a F : Nat) (x : St), a + n = ix (g 0) → n < N → RS x s g → gi x 5 3 = nI (ix (g 0)) → fitI g j a 0 F →
    ∃ F', ff_HI_fitsOf_24 N x 5 s (nI (ix (g (25 + 4 * j)))) (nI t) (lN F) (nI a) = some (lN F', x) ∧ ∀ a' b', a' ≤ b' → b' < ix (g 0) → F'.testBit (6 * a' + b') = fB g j a' b' := by
  have hM2 := hI.1.1.2
  intro n
  induction n with
  | zero =>
    intro N a F x ha hN h hm hF
    obtain ⟨N, rfl⟩ : ∃ K, N = K + 1 := ⟨N - 1, by omega⟩
    refine ⟨F, ?_, fun a' b' h1 h2 => ?_⟩
    · show (if gi x 5 3 ≤ nI a then _ else _) = _
      rw [hm, if_pos (nI_le (by omega) (by omega))]
    · rw [hF a' b' h1 h2]
      simp [show a' < a by omega]
  | succ n ih =>
    intro N a F x ha hN h hm hF
    obtain ⟨N, rfl⟩ : ∃ K, N = K + 1 := ⟨N - 1, by omega⟩
    have hF2 : fitI g j a a F := fun a' b' h1 h2 => by
      rw [hF a' b' h1 h2]
      congr 1
      by_cases c : a' = a
      · simp [c, show ¬ b' < a by omega]
      · simp [c]
    obtain ⟨F1, f1, f2⟩ := c_fitB hs hI hj (a := a) (by omega) ht ht2 ht3 (ff_HI_fitsOf_24 N) (n + 1) FU a F x (by omega) (by unfold FU; omega) (Nat.le_refl a) h hm hF2
    obtain ⟨F2, g1, g2⟩ := ih N (a + 1) F1 x (by omega) (by omega) h hm f2
    refine ⟨F2, ?_, g2⟩
    show (if gi x 5 3 ≤ nI a then _ else _) = _
    rw [hm, if_neg (nI_ge (by omega) (by omega))]
    exact f1.trans g1
/-- what the hiring knows -/
def HV (x : St) (g : Nat → Int32) : Prop := gi x 5 3 = nI (ix (g 0)) ∧ (∀ j, j < 6 → gi x 6 j = tiF g j) ∧ (∀ m, m < ix (g 0) → gi x 8 m = nI (ix (g (9 + 3 * m)))) ∧ ∀ j, j < 6 → ¬ tiF g j = -1 → ∃ F, gl x 7 j = lN F ∧ ∀ a b, a ≤ b → b < ix (g 0) → F.testBit (6 * a + b) = fB g j a b
theorem c_lookF {s : Nat} {g : Nat → Int32} (hs : sp s) (hI : InvG g) : ∀ (n N j : Nat) (x : St), j + n = 6 → n < N → RS x s g → gi x 5 3 = nI (ix (g 0)) → (∀ i, i < 6 → gi x 6 i = tiF g i) → (∀ i, i < j → ¬ tiF g i = -1 → ∃ F, gl x 7 i = lN F ∧ ∀ a b, a ≤ b → b < ix (g 0) → F.testBit (6 * a + b) = fB g i a b) →
    ∃ y, ff_HI_lookAt_54 N x 5 s (nI j) = some ((), y) ∧ onlyL [7] x y ∧ (∀ a k, gi y a k = gi x a k) ∧ ∀ i, i < 6 → ¬ tiF g i = -1 → ∃ F, gl y 7 i = lN F ∧ ∀ a b, a ≤ b → b < ix (g 0) → F.testBit (6 * a + b) = fB g i a b := by
  have hM2 := hI.1.1.2
  intro n
  induction n with
  | zero =>
    intro N j x hj hN h hm ht hF
    obtain ⟨N, rfl⟩ : ∃ K, N = K + 1 := ⟨N - 1, by omega⟩
    refine ⟨x, ?_, onlyL_rf, fun _ _ => rfl, fun i hi => hF i (by omega)⟩
    show (if (6 : Int32) ≤ nI j then _ else _) = _
    rw [if_pos (show (6 : Int32) ≤ nI j from nI_le (a := 6) (by omega) (by omega))]
  | succ n ih =>
    intro N j x hj hN h hm ht hF
    obtain ⟨N, rfl⟩ : ∃ K, N = K + 1 := ⟨N - 1, by omega⟩
    have go : ∀ v : Int64, (¬ tiF g j = -1 → ∃ F, v = lN F ∧ ∀ a b, a ≤ b → b < ix (g 0) → F.testBit (6 * a + b) = fB g j a b) → ∃ y, ff_HI_lookAt_54 N (sl x 7 j v) 5 s (nI (j + 1)) = some ((), y) ∧ onlyL [7] x y ∧ (∀ a k, gi y a k = gi x a k) ∧ ∀ i, i < 6 → ¬ tiF g i = -1 → ∃ F, gl y 7 i = lN F ∧ ∀ a b, a ≤ b → b < ix (g 0) → F.testBit (6 * a + b) = fB g i a b := by
      intro v hv
      obtain ⟨y, y1, y2, y3, y4⟩ := ih N (j + 1) (sl x 7 j v) (by omega) (by omega) (RS_eq hM2 h (fun _ _ _ _ => rfl)) hm ht (fun i hi hn => by
        by_cases e : i = j
        · subst e
          obtain ⟨F, f1, f2⟩ := hv hn
          exact ⟨F, by rw [gl_sl, if_pos ⟨rfl, rfl⟩]; exact f1, f2⟩
        · rw [gl_sl, if_neg (fun z => e z.2)]
          exact hF i (by omega) hn)
      exact ⟨y, y1, onlyL_tr (onlyL_sl _ _ _ (by decide)) y2, y3, y4⟩
    show ∃ y, (if (6 : Int32) ≤ nI j then _ else _) = _ ∧ _
    rw [if_neg (show ¬ (6 : Int32) ≤ nI j from nI_ge (b := 6) (by omega) (by decide)), show rf 5 0 = 6 from rfl, show ln 6 = 6 from rfl, if_pos (ixb_nI (by omega) (by omega)), ix_nI (by omega), ht j (by omega), show rf 5 1 = 7 from rfl, show ln 7 = 6 from rfl, nI_1]
    by_cases c : tiF g j = -1
    · rw [if_pos c, if_pos (ixb_nI (by omega) (by omega)), st_eq]
      exact go 0 (fun z => absurd c z)
    · have hjJ : j < ix (g 1) := by
        by_cases z : j < ix (g 1)
        · exact z
        · exact absurd (TI_out hI (by omega) (ix (g 2)) (Nat.le_refl _)) c
      obtain ⟨t, t1, t2, t3⟩ := (TI_ok hI j (ix (g 2)) (Nat.le_refl _)).resolve_left c
      obtain ⟨F, f1, f2⟩ := c_fitA hs hI hjJ (t := t) t3 t1 t2 (ix (g 0)) FU 0 0 x (by omega) (by unfold FU; omega) h hm (fun a' b' h1 h2 => by simp)
      have e0 := at_jo hs hI h.1 hjJ
      obtain ⟨hl, -⟩ := hI.2.2.1 j hjJ
      rw [hl.1] at e0
      rw [if_neg c]
      unfold ff_HI_fitsOf
      have t3' : tiF g j = nI t := t3
      rw [show (0 : Int32) = nI 0 from rfl, e0, bnd_some, show rf 5 0 = 6 from rfl, show ln 6 = 6 from rfl, if_pos (ixb_nI (by omega) (by omega)), ix_nI (by omega), ht j (by omega), t3', show (0 : Int64) = lN 0 from rfl, f1, bnd_some, if_pos (ixb_nI (by omega) (by omega)), st_eq]
      exact go _ (fun _ => ⟨F, rfl, f2⟩)
theorem c_lookP {s : Nat} {g : Nat → Int32} (hs : sp s) (hI : InvG g) : ∀ (n N m : Nat) (x : St), m + n = ix (g 0) → n < N → RS x s g → gi x 5 3 = nI (ix (g 0)) → (∀ i, i < m → gi x 8 i = nI (ix (g (9 + 3 * i)))) →
    ∃ y, ff_HI_lookAt_18 N x 5 s (nI m) = some ((), y) ∧ onlyL [5, 6, 7, 8] x y ∧ HV y g := by
  have hM2 := hI.1.1.2
  have s16 : 16 ≤ s := by rcases hs with rfl | rfl | rfl | rfl <;> decide
  intro n
  induction n with
  | zero =>
    intro N m x hm hN h hz h8
    obtain ⟨N, rfl⟩ : ∃ K, N = K + 1 := ⟨N - 1, by omega⟩
    obtain ⟨y, y1, y2, y3⟩ := c_lookForNeeds hs hI h
    have hRy := RS_only hM2 h y2 (by omega)
    obtain ⟨z, z1, z2, z3, z4⟩ := c_lookF hs hI 6 FU 0 y (by omega) (by unfold FU; omega) hRy (by rw [y2.1 _ _ (by decide)]; exact hz) y3 (fun i hi => absurd hi (Nat.not_lt_zero i))
    refine ⟨z, ?_, onlyL_tr (onlyL_of y2 (by decide)) ⟨fun a k ha => z3 a k, fun a k ha => z2.2 a k (fun q => ha (by simp at q; simp [q]))⟩, by rw [z3, y2.1 _ _ (by decide)]; exact hz, fun j hj => by rw [z3]; exact y3 j hj, fun i hi => by rw [z3, y2.1 _ _ (by decide)]; exact h8 i (by omega), z4⟩
    show (if gi x 5 3 ≤ nI m then _ else _) = _
    rw [hz, if_pos (nI_le (by omega) (by omega))]
    unfold ff_HI_lookAt_47
    rw [y1, bnd_some]
    exact z1
  | succ n ih =>
    intro N m x hm hN h hz h8
    obtain ⟨N, rfl⟩ : ∃ K, N = K + 1 := ⟨N - 1, by omega⟩
    obtain ⟨-, -, k3⟩ := hI.2.1 m (by omega)
    have e0 := at_mo hs hI h.1 (i := m) (c := 2) (by omega) (by decide)
    rw [show 7 + 3 * m + 2 = 9 + 3 * m by omega, k3.1] at e0
    obtain ⟨y, y1, y2, y3⟩ := ih N (m + 1) (si x 8 m (nI (ix (g (9 + 3 * m))))) (by omega) (by omega) (RS_only hM2 h (only_si _ _ _ _) (by omega)) hz (fun i hi => by
      by_cases e : i = m
      · subst e; exact gi_si_s _ _ _ _
      · rw [gi_si_n _ _ _ _ (fun z => e z.2)]; exact h8 i (by omega))
    refine ⟨y, ?_, onlyL_tr (onlyL_si _ _ _ (by decide)) y2, y3⟩
    rw [← y1]
    show (if gi x 5 3 ≤ nI m then _ else _) = _
    rw [hz, if_neg (nI_ge (by omega) (by omega)), show (2 : Int32) = nI 2 from rfl, e0, bnd_some, show rf 5 2 = 8 from rfl, show ln 8 = 6 from rfl, if_pos (ixb_nI (by omega) (by omega)), ix_nI (by omega), st_eq, nI_1]
theorem c_lookAt {x : St} {s : Nat} {g : Nat → Int32} (hs : sp s) (hI : InvG g) (h : RS x s g) : ∃ y, ff_HI_lookAt x 5 s = some ((), y) ∧ onlyL [5, 6, 7, 8] x y ∧ HV y g := by
  have hM := hI.1.1
  have hM2 := hM.2
  have s16 : 16 ≤ s := by rcases hs with rfl | rfl | rfl | rfl <;> decide
  obtain ⟨y, y1, y2, y3⟩ := c_lookP hs hI (ix (g 0)) FU 0 (si x 5 3 (nI (ix (g 0)))) (by omega) (by unfold FU; omega) (RS_only hM2 h (only_si _ _ _ _) (by omega)) (gi_si_s _ _ _ _) (fun i hi => absurd hi (Nat.not_lt_zero i))
  refine ⟨y, ?_, onlyL_tr (onlyL_si _ _ _ (by decide)) y2, y3⟩
  unfold ff_HI_lookAt
  rw [(sp_rf hs).1, h.1.2.1.1, hM.1, show imin (nI (ix (g 0))) 6 = nI (ix (g 0)) from by rw [show (6 : Int32) = nI 6 from rfl, imin_nI (by omega) (by decide), Nat.min_eq_left (by omega)], st_eq, ← hM.1]
  rw [← hM.1] at y1
  exact y1
