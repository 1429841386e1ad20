theorem c_tok38 {t s : Nat} {f : Nat → Nat} {x : St} (hT : TX x t f) (hs : s ≤ t) (h2 : gi x 3 2 = nI s) : ∃ y, ff_RE_nextToken_38 x 3 = some ((), y) ∧ only3 x y ∧ gi y 3 6 = nI s ∧ gi y 3 2 = nI (if s = t then s else if isLe (f s) = true then rn isLe f (t - s) s else if isFi (f s) = true then rn isFi f (t - s) s else s + 1) ∧ gi y 3 5 = nI (if s = t then 0 else if isLe (f s) = true then 1 else if isFi (f s) = true then (if 2 < rn isFi f (t - s) s - s then 4 else 2) else if f s = 59 then 3 else 4) ∧ (isFi (f s) = true → s < t → gi y 3 7 = nI (tkV f s (rn isFi f (t - s) s))) := by
  have ht := hT.1
  obtain ⟨z, hz⟩ : ∃ z, z = si (si x 3 6 (nI s)) 3 7 0 := ⟨_, rfl⟩
  have o : only3 x z := by rw [hz]; exact only3_tr (only3_si x _ (by omega)) (only3_si _ _ (by omega))
  have hTz := TX_3 hT o
  have z2 : gi z 3 2 = nI s := by rw [hz, gi_si_n _ _ _ _ (by omega), gi_si_n _ _ _ _ (by omega)]; exact h2
  have z6 : gi z 3 6 = nI s := by rw [hz, gi_si_n _ _ _ _ (by omega), gi_si_s]
  have z7 : gi z 3 7 = 0 := by rw [hz, gi_si_s]
  unfold ff_RE_nextToken_38
  rw [st_eq, st_eq, h2, ← hz, z2, hTz.2.1]
  by_cases q : s = t
  · rw [if_neg (nI_nlt (by omega) (by omega)), st_eq]
    refine ⟨si z 3 5 0, rfl, only3_tr o (only3_si _ _ (by omega)), ?_, ?_, ?_, fun _ h => by omega⟩
    · rw [gi_si_n _ _ _ _ (by omega)]; exact z6
    · rw [gi_si_n _ _ _ _ (by omega), if_pos q]; exact z2
    · rw [gi_si_s, if_pos q]; rfl
  · obtain ⟨b1, b2⟩ := hTz.2.2 s (by omega)
    rw [if_pos (nI_lt (by omega) (by omega)), show rf 3 0 = 4 from rfl, show ln 4 = 250 from rfl, if_pos (ixb_nI (by omega) (by omega)), ix_nI (by omega), b1, c_isLetter z b2, bnd_some, if_neg q, if_neg q]
    cases hl : isLe (f s) with
    | true =>
      rw [show b32 true = 1 from rfl, if_neg (show ¬ (1 : Int32) = 0 by decide), if_pos (show true = true from rfl), if_pos (show true = true from rfl)]
      unfold ff_RE_readLetters
      obtain ⟨y, y1, y2, y3, y4, y5, y6⟩ := c_letters (t - s) FU s (si z 3 5 1) (by omega) (by unfold FU; omega) (TX_3 hTz (only3_si _ _ (by omega))) (by rw [gi_si_n _ _ _ _ (by omega)]; exact z2)
      refine ⟨y, by rw [st_eq, y1, bnd_some], only3_tr o (only3_tr (only3_si _ _ (by omega)) y2), ?_, y3, ?_, fun h => ?_⟩
      · rw [y5, gi_si_n _ _ _ _ (by omega)]; exact z6
      · rw [y4, gi_si_s]; rfl
      · unfold isLe at hl
        unfold isFi at h
        have h1 := of_decide_eq_true hl
        have h3 := of_decide_eq_true h
        omega
    | false =>
      rw [if_pos (show b32 false = 0 from rfl), if_neg (show ¬ false = true by decide), if_neg (show ¬ false = true by decide), z2, if_pos (ixb_nI (by omega) (by omega)), ix_nI (by omega), b1, c_isFigure z b2, bnd_some]
      cases hf : isFi (f s) with
      | true =>
        rw [show b32 true = 1 from rfl, if_neg (show ¬ (1 : Int32) = 0 by decide), if_pos (show true = true from rfl), if_pos (show true = true from rfl)]
        obtain ⟨y, y1, y2, y3, y4, y5, y6⟩ := c_figures (s := s) (t - s) FU s z (by omega) (by unfold FU; omega) (by omega) (fun i h1 h3 => by omega) hTz z2 z6 (by rw [z7]; unfold tkV; rw [if_pos (by omega)]; rfl)
        unfold ff_RE_readFigures
        exact ⟨y, by rw [y1, bnd_some], only3_tr o y2, y5, y3, y4, fun _ _ => y6⟩
      | false =>
        rw [if_pos (show b32 false = 0 from rfl), if_neg (show ¬ false = true by decide), if_neg (show ¬ false = true by decide), z2, if_pos (ixb_nI (by omega) (by omega)), ix_nI (by omega), b1]
        by_cases w : f s = 59
        · rw [if_pos (by rw [w]; decide), if_pos w, st_eq, gi_si_n _ _ _ _ (by omega), z2, nI_1, st_eq]
          refine ⟨_, rfl, only3_tr o (only3_tr (only3_si _ _ (by omega)) (only3_si _ _ (by omega))), ?_, gi_si_s _ _ _ _, ?_, fun h => by cases h⟩
          · rw [gi_si_n _ _ _ _ (by omega), gi_si_n _ _ _ _ (by omega)]; exact z6
          · rw [gi_si_n _ _ _ _ (by omega), gi_si_s]; rfl
        · rw [if_neg (show ¬ nI (f s) = 59 from nI_eqn (b := 59) (by omega) (by decide) w), if_neg w, st_eq, gi_si_n _ _ _ _ (by omega), z2, nI_1, st_eq]
          refine ⟨_, rfl, only3_tr o (only3_tr (only3_si _ _ (by omega)) (only3_si _ _ (by omega))), ?_, gi_si_s _ _ _ _, ?_, fun h => by cases h⟩
          · rw [gi_si_n _ _ _ _ (by omega), gi_si_n _ _ _ _ (by omega)]; exact z6
          · rw [gi_si_n _ _ _ _ (by omega), gi_si_s]; rfl
theorem c_tok0 {t : Nat} {f : Nat → Nat} : ∀ (r N p : Nat) (x : St), p + r = t → r < N → TX x t f → gi x 3 2 = nI p → ∃ z, ff_RE_nextToken_0 N x 3 = ff_RE_nextToken_38 z 3 ∧ only3 x z ∧ gi z 3 2 = nI (rn isSp f r p) := by
  intro r
  induction r with
  | zero =>
    intro N p x hp hN hT h2
    obtain ⟨N, rfl⟩ : ∃ K, N = K + 1 := ⟨N - 1, by omega⟩
    have ht := hT.1
    refine ⟨x, ?_, only3_rf, h2⟩
    show (if gi x 3 1 ≤ gi x 3 2 then _ else _) = _
    rw [hT.2.1, h2, if_pos (nI_le (by omega) (by omega))]
  | succ r ih =>
    intro N p x hp hN hT h2
    obtain ⟨N, rfl⟩ : ∃ K, N = K + 1 := ⟨N - 1, by omega⟩
    have ht := hT.1
    obtain ⟨b1, b2⟩ := hT.2.2 p (by omega)
    have e0 : ff_RE_nextToken_0 (N + 1) x 3 = if f p = 32 then ff_RE_nextToken_0 N (si x 3 2 (nI (p + 1))) 3 else ff_RE_nextToken_38 x 3 := by
      show (if gi x 3 1 ≤ gi x 3 2 then _ else _) = _
      rw [hT.2.1, h2, if_neg (nI_ge (by omega) (by omega)), show rf 3 0 = 4 from rfl, show ln 4 = 250 from rfl, if_pos (ixb_nI (by omega) (by omega)), ix_nI (by omega), b1, st_eq, nI_1]
      by_cases w : f p = 32
      · rw [if_pos w, if_pos (by rw [w]; decide)]
      · rw [if_neg w, if_neg (show ¬ nI (f p) = 32 from nI_eqn (b := 32) (by omega) (by decide) w)]
    rw [e0, rn_s]
    by_cases w : f p = 32
    · have o := only3_si x (k := 2) (nI (p + 1)) (by omega)
      obtain ⟨y, y1, y2, y3⟩ := ih N (p + 1) _ (by omega) (by omega) (TX_3 hT o) (gi_si_s _ _ _ _)
      exact ⟨y, by rw [if_pos w]; exact y1, only3_tr o y2, by rw [if_pos (show isSp (f p) = true from decide_eq_true w)]; exact y3⟩
    · exact ⟨x, by rw [if_neg w], only3_rf, by rw [if_neg (show ¬ isSp (f p) = true from fun e => w (of_decide_eq_true e))]; exact h2⟩
theorem c_token {t p : Nat} {f : Nat → Nat} {x : St} (hT : TX x t f) (hp : p ≤ t) (h2 : gi x 3 2 = nI p) : ∃ y, ff_RE_nextToken x 3 = some ((), y) ∧ only3 x y ∧ gi y 3 6 = nI (tkS f t p) ∧ gi y 3 2 = nI (tkE f t p) ∧ gi y 3 5 = nI (tkC f t p) ∧ (tkC f t p = 2 → gi y 3 7 = nI (tkV f (tkS f t p) (tkE f t p))) := by
  have ht := hT.1
  have hs := tkS_le (f := f) hp
  obtain ⟨z, z1, z2, z3⟩ := c_tok0 (t - p) FU p x (by omega) (by unfold FU; omega) hT h2
  obtain ⟨y, y1, y2, y3, y4, y5, y6⟩ := c_tok38 (s := tkS f t p) (TX_3 hT z2) hs.2 z3
  unfold ff_RE_nextToken
  refine ⟨y, by rw [z1, y1], only3_tr z2 y2, y3, y4, ?_, fun hc => ?_⟩
  · rw [y5]
    congr 1
    unfold tkC tkE
    by_cases q : tkS f t p = t
    · rw [if_pos q, if_pos q]
    · rw [if_neg q, if_neg q, if_neg q]
      cases hl : isLe (f (tkS f t p)) with
      | true => rfl
      | false =>
        cases hf : isFi (f (tkS f t p)) with
        | true => rfl
        | false => rfl
  · have hq : ¬ tkS f t p = t := fun e => by unfold tkC at hc; rw [if_pos e] at hc; omega
    have hl : isLe (f (tkS f t p)) = false := by
      cases q : isLe (f (tkS f t p)) with
      | false => rfl
      | true => unfold tkC at hc; rw [if_neg hq, q, if_pos rfl] at hc; omega
    have hf : isFi (f (tkS f t p)) = true := by
      cases q : isFi (f (tkS f t p)) with
      | true => rfl
      | false =>
        unfold tkC at hc
        rw [if_neg hq, hl, if_neg (by decide), q, if_neg (by decide)] at hc
        split at hc <;> omega
    rw [y6 hf (by omega)]
    unfold tkE
    rw [if_neg hq, hl, if_neg (by decide), hf, if_pos rfl]
