theorem m_tok22 {t s : Nat} {f : Nat → Nat} {x : St} (hT : TM x t f) (hs : s ≤ t) (h8 : gi x 100 8 = nI s) : ∃ y, ff_MO_next_22 x 100 = some ((), y) ∧ onlyK x y ∧ gi y 100 9 = nI s ∧ gi y 100 8 = nI (if s = t then s else if isLe (f s) = true then rn isLe f (t - s) s else if isFi (f s) = true then rn isFi f (t - s) s else s + 1) ∧ gi y 100 10 = nI (if s = t then 9 else if isLe (f s) = true then mnN (cdU f s (min (rn isLe f (t - s) s - s) 6)) (thU f s (rn isLe f (t - s) s - s)) else if isFi (f s) = true then (if 2 < rn isFi f (t - s) s - s then 10 else 7) else if f s = 59 then 8 else 10) ∧ (isFi (f s) = true → s < t → rn isFi f (t - s) s - s ≤ 2 → gi y 100 11 = nI (tkV f s (rn isFi f (t - s) s))) := by
  have ht := hT.1
  obtain ⟨z, hz⟩ : ∃ z, z = si (si x 100 9 (nI s)) 100 11 0 := ⟨_, rfl⟩
  have o : onlyK x z := by rw [hz]; exact onlyK_tr (onlyK_si x _ (by omega)) (onlyK_si _ _ (by omega))
  have hTz := TM_K hT o
  have z8 : gi z 100 8 = nI s := by rw [hz, gi_si_n _ _ _ _ (by omega), gi_si_n _ _ _ _ (by omega)]; exact h8
  have z9 : gi z 100 9 = nI s := by rw [hz, gi_si_n _ _ _ _ (by omega), gi_si_s]
  have z11 : gi z 100 11 = 0 := by rw [hz, gi_si_s]
  unfold ff_MO_next_22
  rw [st_eq, st_eq, h8, ← hz]
  by_cases q : s = t
  · rw [m_hereE hTz z8 (by omega) (by omega), bnd_some, if_neg (by decide), st_eq]
    refine ⟨si z 100 10 9, rfl, onlyK_tr o (onlyK_si _ _ (by omega)), ?_, ?_, ?_, fun _ h => by omega⟩
    · rw [gi_si_n _ _ _ _ (by omega)]; exact z9
    · rw [gi_si_n _ _ _ _ (by omega), if_pos q]; exact z8
    · rw [gi_si_s, if_pos q]; rfl
  · have hb := (hTz.2.2 s (by omega)).2
    rw [m_here hTz z8 (by omega), bnd_some, if_pos (show (0 : Int32) ≤ nI (f s) from nI_le (a := 0) (by omega) (by omega)), p_in, bnd_some, wn_le hb, if_neg q, if_neg q]
    cases hl : isLe (f s) with
    | true =>
      rw [show b32 true = 1 from rfl, if_neg (show ¬ (1 : Int32) = 0 by decide), if_pos (show true = true from rfl), if_pos (show true = true from rfl)]
      obtain ⟨y, y1, y2, y3, y4, y5⟩ := m_n68 (s := s) (t - s) FU s z (by omega) (by unfold FU; omega) (by omega) hTz z8 z9
      have hr := rn_le isLe f (t - s) s
      have hg := rn_ge isLe f (t - s) s
      have hcd : cdU f s (min (rn isLe f (t - s) s - s) 6) < 27 ^ min (rn isLe f (t - s) s - s) 6 := cdU_lt _ (fun i hi => le_rg (rn_all isLe f (t - s) s (s + i) (by omega) (by omega)))
      have h27 : 27 ^ min (rn isLe f (t - s) s - s) 6 ≤ 27 ^ 6 := Nat.pow_le_pow_right (by decide) (by omega)
      have hth : thU f s (rn isLe f (t - s) s - s) < 2 ^ 31 := by
        unfold thU
        split
        · omega
        · split
          · rename_i h1 h2
            have := le_rg (rn_all isLe f (t - s) s (s + 6) (by omega) (by omega))
            omega
          · omega
      have e1 : ff_MO_next_68 FU z 100 0 0 = ff_MO_next_161 y 100 (nI (cdU f s (min (rn isLe f (t - s) s - s) 6))) (nI (thU f s (rn isLe f (t - s) s - s))) := by
        have := y1
        rw [Nat.sub_self] at this
        exact this
      refine ⟨si y 100 10 (nI (mnN (cdU f s (min (rn isLe f (t - s) s - s) 6)) (thU f s (rn isLe f (t - s) s - s)))), ?_, onlyK_tr o (onlyK_tr y2 (onlyK_si _ _ (by omega))), ?_, ?_, gi_si_s _ _ _ _, fun h => ?_⟩
      · rw [e1]
        unfold ff_MO_next_161
        rw [m_meaning y (by omega) hth, bnd_some, st_eq]
      · rw [gi_si_n _ _ _ _ (by omega)]; exact y4
      · rw [gi_si_n _ _ _ _ (by omega)]; exact y3
      · have h1 := le_rg hl
        have h3 := fi_rg h
        omega
    | false =>
      rw [if_pos (show b32 false = 0 from rfl), if_neg (show ¬ false = true by decide), if_neg (show ¬ false = true by decide), p_in, bnd_some, wn_fi hb]
      cases hf : isFi (f s) with
      | true =>
        rw [show b32 true = 1 from rfl, if_neg (show ¬ (1 : Int32) = 0 by decide), if_pos (show true = true from rfl), if_pos (show true = true from rfl)]
        obtain ⟨y, y1, y2, y3, y4, y5, y6⟩ := m_n184 (s := s) (t - s) FU s z (by omega) (by unfold FU; omega) (by omega) hTz z8 z9 (by rw [z11]; unfold tkW tkV; rw [if_pos (by omega), if_pos (by omega)]; rfl)
        exact ⟨y, y1, onlyK_tr o y2, y4, y3, y5, fun _ _ h => by rw [y6]; unfold tkW; rw [if_pos h]⟩
      | false =>
        rw [if_pos (show b32 false = 0 from rfl), if_neg (show ¬ false = true by decide), if_neg (show ¬ false = true by decide), st_eq, z8, nI_1]
        by_cases w : f s = 59
        · rw [if_pos (show nI (f s) = 59 by rw [w]; decide), if_pos w, st_eq]
          refine ⟨_, rfl, onlyK_tr o (onlyK_tr (onlyK_si _ _ (by omega)) (onlyK_si _ _ (by omega))), ?_, ?_, ?_, fun h => by cases h⟩
          · rw [gi_si_n _ _ _ _ (by omega), gi_si_n _ _ _ _ (by omega)]; exact z9
          · rw [gi_si_n _ _ _ _ (by omega), gi_si_s]
          · rw [gi_si_s]; rfl
        · rw [if_neg (show ¬ nI (f s) = 59 from nI_eqn (b := 59) (by omega) (by decide) w), if_neg w, st_eq]
          refine ⟨_, rfl, onlyK_tr o (onlyK_tr (onlyK_si _ _ (by omega)) (onlyK_si _ _ (by omega))), ?_, ?_, ?_, fun h => by cases h⟩
          · rw [gi_si_n _ _ _ _ (by omega), gi_si_n _ _ _ _ (by omega)]; exact z9
          · rw [gi_si_n _ _ _ _ (by omega), gi_si_s]
          · rw [gi_si_s]; rfl
theorem m_token {t p : Nat} {f : Nat → Nat} {x : St} (hT : TM x t f) (hp : p ≤ t) (h8 : gi x 100 8 = nI p) : ∃ y, ff_MO_next x 100 = some ((), y) ∧ onlyK x y ∧ gi y 100 9 = nI (tkS f t p) ∧ gi y 100 8 = nI (tkE f t p) ∧ gi y 100 10 = nI (tkM f t p) ∧ (tkC f t p = 2 → gi y 100 11 = nI (tkV f (tkS f t p) (tkE f t p))) := by
  have ht := hT.1
  have hs := tkS_le (f := f) hp
  obtain ⟨z, z1, z2, z3⟩ := m_n0 (t - p) FU p x (by omega) (by unfold FU; omega) hT h8
  obtain ⟨y, y1, y2, y3, y4, y5, y6⟩ := m_tok22 (s := tkS f t p) (TM_K hT z2) hs.2 z3
  unfold ff_MO_next
  refine ⟨y, by rw [z1, y1], onlyK_tr z2 y2, y3, y4, ?_, fun hc => ?_⟩
  · rw [y5]
    congr 1
    unfold tkM tkE
    by_cases q : tkS f t p = t
    · rw [if_pos q, if_pos q]
    · rw [if_neg q, if_neg q, if_neg q]
      cases hl : isLe (f (tkS f t p)) with
      | true => rfl
      | false =>
        cases hf : isFi (f (tkS f t p)) with
        | true => rfl
        | false => rfl
  · have hq : ¬ tkS f t p = t := fun e => by unfold tkC at hc; rw [if_pos e] at hc; omega
    have hl : isLe (f (tkS f t p)) = false := by
      cases q : isLe (f (tkS f t p)) with
      | false => rfl
      | true => unfold tkC at hc; rw [if_neg hq, q, if_pos rfl] at hc; omega
    have hf : isFi (f (tkS f t p)) = true := by
      cases q : isFi (f (tkS f t p)) with
      | true => rfl
      | false =>
        unfold tkC at hc
        rw [if_neg hq, hl, if_neg (by decide), q, if_neg (by decide)] at hc
        split at hc <;> omega
    have eE : tkE f t p = rn isFi f (t - tkS f t p) (tkS f t p) := by
      unfold tkE
      rw [if_neg hq, hl, if_neg (by decide), hf, if_pos rfl]
    have h2 : tkE f t p - tkS f t p ≤ 2 := by
      unfold tkC at hc
      rw [if_neg hq, hl, if_neg (by decide), hf, if_pos rfl] at hc
      split at hc <;> omega
    rw [eE] at h2 ⊢
    exact y6 hf (by omega) h2
