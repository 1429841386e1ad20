def tkW (f : Nat → Nat) (s p : Nat) : Nat := if p - s ≤ 2 then tkV f s p else 0
theorem m_n184 {t s : Nat} {f : Nat → Nat} : ∀ (r N p : Nat) (x : St), p + r = t → r < N → s ≤ p → TM x t f → gi x 100 8 = nI p → gi x 100 9 = nI s → gi x 100 11 = nI (tkW f s p) →
    ∃ y, ff_MO_next_184 N x 100 = some ((), y) ∧ onlyK x y ∧ gi y 100 8 = nI (rn isFi f r p) ∧ gi y 100 9 = nI s ∧ gi y 100 10 = nI (if 2 < rn isFi f r p - s then 10 else 7) ∧ gi y 100 11 = nI (tkW f s (rn isFi f r p)) := by
  have fin : ∀ (p : Nat) (x : St), s ≤ p → p ≤ 250 → gi x 100 8 = nI p → gi x 100 9 = nI s → gi x 100 11 = nI (tkW f s p) → ∃ y, ff_MO_next_247 x 100 = some ((), y) ∧ onlyK x y ∧ gi y 100 8 = nI p ∧ gi y 100 9 = nI s ∧ gi y 100 10 = nI (if 2 < p - s then 10 else 7) ∧ gi y 100 11 = nI (tkW f s p) := by
    intro p x hs hp h8 h9 h11
    unfold ff_MO_next_247
    rw [h8, h9, pk_sub hs]
    by_cases q : 2 < p - s
    · refine ⟨si x 100 10 10, by rw [if_neg (show ¬ nI (p - s) ≤ 2 from nI_ge (a := 2) q (by omega)), st_eq], onlyK_si _ _ (by omega), ?_, ?_, by rw [gi_si_s, if_pos q]; rfl, ?_⟩
      · rw [gi_si_n _ _ _ _ (by omega)]; exact h8
      · rw [gi_si_n _ _ _ _ (by omega)]; exact h9
      · rw [gi_si_n _ _ _ _ (by omega)]; exact h11
    · refine ⟨si x 100 10 7, by rw [if_pos (show nI (p - s) ≤ 2 from nI_le (b := 2) (by omega) (by decide)), st_eq], onlyK_si _ _ (by omega), ?_, ?_, by rw [gi_si_s, if_neg q]; rfl, ?_⟩
      · rw [gi_si_n _ _ _ _ (by omega)]; exact h8
      · rw [gi_si_n _ _ _ _ (by omega)]; exact h9
      · rw [gi_si_n _ _ _ _ (by omega)]; exact h11
  intro r
  induction r with
  | zero =>
    intro N p x hp hN hs hT h8 h9 h11
    obtain ⟨N, rfl⟩ : ∃ K, N = K + 1 := ⟨N - 1, by omega⟩
    have ht := hT.1
    have e0 : ff_MO_next_184 (N + 1) x 100 = ff_MO_next_247 x 100 := by
      show bnd (ff_MO_here x 100) _ = _
      rw [m_hereE hT h8 (by omega) (by omega), bnd_some, p_in, bnd_some, if_pos (by decide)]
    rw [e0]
    exact fin p x hs (by omega) h8 h9 h11
  | succ r ih =>
    intro N p x hp hN hs hT h8 h9 h11
    obtain ⟨N, rfl⟩ : ∃ K, N = K + 1 := ⟨N - 1, by omega⟩
    have ht := hT.1
    have hb := (hT.2.2 p (by omega)).2
    rw [rn_s]
    cases q : isFi (f p) with
    | false =>
      have e0 : ff_MO_next_184 (N + 1) x 100 = ff_MO_next_247 x 100 := by
        show bnd (ff_MO_here x 100) _ = _
        rw [m_here hT h8 (by omega), bnd_some, p_in, bnd_some, wn_fi hb, q, if_pos (show b32 false = 0 from rfl)]
      rw [e0, if_neg (by decide)]
      exact fin p x hs (by omega) h8 h9 h11
    | true =>
      obtain ⟨c1, c2⟩ := fi_rg q
      rw [if_pos rfl]
      have key : ∀ v : Int32, v = nI (tkW f s (p + 1)) → ∃ y, ff_MO_next_231 (ff_MO_next_184 N) x 100 v 100 = some ((), y) ∧ onlyK x y ∧ gi y 100 8 = nI (rn isFi f r (p + 1)) ∧ gi y 100 9 = nI s ∧ gi y 100 10 = nI (if 2 < rn isFi f r (p + 1) - s then 10 else 7) ∧ gi y 100 11 = nI (tkW f s (rn isFi f r (p + 1))) := by
        intro v hv
        have o : onlyK x (si (si x 100 11 v) 100 8 (nI (p + 1))) := onlyK_tr (onlyK_si x _ (by omega)) (onlyK_si _ _ (by omega))
        obtain ⟨y, y1, y2, y3, y4, y5, y6⟩ := ih N (p + 1) _ (by omega) (by omega) (by omega) (TM_K hT o) (gi_si_s _ _ _ _) (by rw [gi_si_n _ _ _ _ (by omega), gi_si_n _ _ _ _ (by omega)]; exact h9) (by rw [gi_si_n _ _ _ _ (by omega), gi_si_s]; exact hv)
        refine ⟨y, ?_, onlyK_tr o y2, y3, y4, y5, y6⟩
        unfold ff_MO_next_231
        rw [st_eq, st_eq, gi_si_n _ _ _ _ (by omega), h8, nI_1]
        exact y1
      have e0 : ff_MO_next_184 (N + 1) x 100 = if (2 : Int32) ≤ nI (p - s) then ff_MO_next_231 (ff_MO_next_184 N) x 100 0 100 else ff_MO_next_231 (ff_MO_next_184 N) x 100 (10 * nI (tkW f s p) + nI (f p) - 48) 100 := by
        show bnd (ff_MO_here x 100) _ = _
        rw [m_here hT h8 (by omega), bnd_some, p_in, bnd_some, wn_fi hb, q, show b32 true = 1 from rfl, if_neg (show ¬ (1 : Int32) = 0 by decide), h8, h9, pk_sub hs, m_here hT h8 (by omega), bnd_some, h11]
      rw [e0]
      by_cases w : 2 ≤ p - s
      · rw [if_pos (show (2 : Int32) ≤ nI (p - s) from nI_le (a := 2) w (by omega))]
        exact key 0 (by unfold tkW; rw [if_neg (by omega)]; rfl)
      · rw [if_neg (show ¬ (2 : Int32) ≤ nI (p - s) from nI_ge (b := 2) (by omega) (by decide))]
        refine key _ ?_
        rw [show (10 * nI (tkW f s p) : Int32) = nI (10 * tkW f s p) from pk_mul 10 _, nI_add, show (48 : Int32) = nI 48 from rfl, pk_sub (by omega)]
        congr 1
        unfold tkW
        rw [if_pos (by omega), if_pos (by omega)]
        unfold tkV
        by_cases z : p = s
        · subst z
          rw [if_pos (by omega), if_neg (by omega), if_pos rfl]; omega
        · have hp1 : p = s + 1 := by omega
          subst hp1
          rw [if_neg (by omega), if_pos rfl, if_neg (by omega), if_neg (by omega)]
theorem m_n0 {t : Nat} {f : Nat → Nat} : ∀ (r N p : Nat) (x : St), p + r = t → r < N → TM x t f → gi x 100 8 = nI p → ∃ z, ff_MO_next_0 N x 100 = ff_MO_next_22 z 100 ∧ onlyK x z ∧ gi z 100 8 = nI (rn isSp f r p) := by
  intro r
  induction r with
  | zero =>
    intro N p x hp hN hT h8
    obtain ⟨N, rfl⟩ : ∃ K, N = K + 1 := ⟨N - 1, by omega⟩
    have ht := hT.1
    refine ⟨x, ?_, onlyK_rf, h8⟩
    show bnd (ff_MO_here x 100) _ = _
    rw [m_hereE hT h8 (by omega) (by omega), bnd_some, if_neg (by decide)]
  | succ r ih =>
    intro N p x hp hN hT h8
    obtain ⟨N, rfl⟩ : ∃ K, N = K + 1 := ⟨N - 1, by omega⟩
    have ht := hT.1
    have hb := (hT.2.2 p (by omega)).2
    have e0 : ff_MO_next_0 (N + 1) x 100 = if f p = 32 then ff_MO_next_0 N (si x 100 8 (nI (p + 1))) 100 else ff_MO_next_22 x 100 := by
      show bnd (ff_MO_here x 100) _ = _
      rw [m_here hT h8 (by omega), bnd_some, st_eq, h8, nI_1]
      by_cases w : f p = 32
      · rw [if_pos w, if_pos (by rw [w]; decide)]
      · rw [if_neg w, if_neg (show ¬ nI (f p) = 32 from nI_eqn (b := 32) (by omega) (by decide) w)]
    rw [e0, rn_s]
    by_cases w : f p = 32
    · have o := onlyK_si x (k := 8) (nI (p + 1)) (by omega)
      obtain ⟨y, y1, y2, y3⟩ := ih N (p + 1) _ (by omega) (by omega) (TM_K hT o) (gi_si_s _ _ _ _)
      exact ⟨y, by rw [if_pos w]; exact y1, onlyK_tr o y2, by rw [if_pos (show isSp (f p) = true from decide_eq_true w)]; exact y3⟩
    · exact ⟨x, by rw [if_neg w], onlyK_rf, by rw [if_neg (show ¬ isSp (f p) = true from fun e => w (of_decide_eq_true e))]; exact h8⟩
