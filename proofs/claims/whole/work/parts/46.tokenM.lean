/-! the reference's tokens -/
def TM (m : St) (t : Nat) (f : Nat → Nat) : Prop := t ≤ 250 ∧ gi m 100 7 = nI t ∧ ∀ i, i < t → gi m 104 i &&& 255 = nI (f i) ∧ f i ≤ 255
def onlyK (x y : St) : Prop := (∀ a k, ¬ (a = 100 ∧ (k = 8 ∨ k = 9 ∨ k = 10 ∨ k = 11)) → gi y a k = gi x a k) ∧ ∀ a k, gl y a k = gl x a k
theorem onlyK_rf {x : St} : onlyK x x := ⟨fun _ _ _ => rfl, fun _ _ => rfl⟩
theorem onlyK_tr {x y z : St} (h1 : onlyK x y) (h2 : onlyK y z) : onlyK x z := ⟨fun a k h => (h2.1 a k h).trans (h1.1 a k h), fun a k => (h2.2 a k).trans (h1.2 a k)⟩
theorem onlyK_si (x : St) {k : Nat} (v : Int32) (hk : k = 8 ∨ k = 9 ∨ k = 10 ∨ k = 11) : onlyK x (si x 100 k v) := ⟨fun a j h => gi_si_n _ _ _ _ (fun e => h ⟨e.1, by omega⟩), fun _ _ => rfl⟩
theorem TM_K {x y : St} {t : Nat} {f : Nat → Nat} (h : TM x t f) (o : onlyK x y) : TM y t f := ⟨h.1, by rw [o.1 _ _ (by omega)]; exact h.2.1, fun i hi => by rw [o.1 _ _ (by omega)]; exact h.2.2 i hi⟩
theorem m_here {x : St} {t p : Nat} {f : Nat → Nat} (hT : TM x t f) (h8 : gi x 100 8 = nI p) (hp : p < t) : ff_MO_here x 100 = some (nI (f p), x) := by
  have ht := hT.1
  unfold ff_MO_here
  rw [hT.2.1, h8, if_neg (nI_ge (by omega) (by omega)), show rf 100 6 = 104 from rfl, show ln 104 = 250 from rfl, if_pos (ixb_nI (by omega) (by omega)), ix_nI (by omega), (hT.2.2 p hp).1]
theorem m_hereE {x : St} {t p : Nat} {f : Nat → Nat} (hT : TM x t f) (h8 : gi x 100 8 = nI p) (hp : t ≤ p) (hp2 : p ≤ 250) : ff_MO_here x 100 = some (-1, x) := by
  have ht := hT.1
  unfold ff_MO_here
  rw [hT.2.1, h8, if_pos (nI_le (by omega) (by omega))]
theorem wn_le {b : Nat} (hb : b ≤ 255) : wn (nI b) 97 122 = b32 (isLe b) := by
  unfold wn isLe
  by_cases h1 : b < 97
  · rw [if_pos (show nI b < 97 from nI_lt (b := 97) h1 (by decide)), show decide (97 ≤ b ∧ b ≤ 122) = false from decide_eq_false (by omega)]; rfl
  · rw [if_neg (show ¬ nI b < 97 from nI_nlt (b := 97) (by omega) (by omega))]
    by_cases h2 : 122 < b
    · rw [if_pos (show (122 : Int32) < nI b from nI_lt (a := 122) h2 (by omega)), show decide (97 ≤ b ∧ b ≤ 122) = false from decide_eq_false (by omega)]; rfl
    · rw [if_neg (show ¬ (122 : Int32) < nI b from nI_nlt (a := 122) (by omega) (by decide)), show decide (97 ≤ b ∧ b ≤ 122) = true from decide_eq_true (by omega)]; rfl
theorem wn_fi {b : Nat} (hb : b ≤ 255) : wn (nI b) 48 57 = b32 (isFi b) := by
  unfold wn isFi
  by_cases h1 : b < 48
  · rw [if_pos (show nI b < 48 from nI_lt (b := 48) h1 (by decide)), show decide (48 ≤ b ∧ b ≤ 57) = false from decide_eq_false (by omega)]; rfl
  · rw [if_neg (show ¬ nI b < 48 from nI_nlt (b := 48) (by omega) (by omega))]
    by_cases h2 : 57 < b
    · rw [if_pos (show (57 : Int32) < nI b from nI_lt (a := 57) h2 (by omega)), show decide (48 ≤ b ∧ b ≤ 57) = false from decide_eq_false (by omega)]; rfl
    · rw [if_neg (show ¬ (57 : Int32) < nI b from nI_nlt (a := 57) (by omega) (by decide)), show decide (48 ≤ b ∧ b ≤ 57) = true from decide_eq_true (by omega)]; rfl
/-- the code of the first k letters from s on -/
def cdU (f : Nat → Nat) (s : Nat) : Nat → Nat
  | 0 => 0
  | k + 1 => 27 * cdU f s k + f (s + k) - 96
def thU (f : Nat → Nat) (s L : Nat) : Nat := if L ≤ 6 then 0 else if L = 7 then f (s + 6) - 96 else 99
theorem le_rg {b : Nat} (h : isLe b = true) : 97 ≤ b ∧ b ≤ 122 := of_decide_eq_true h
theorem m_n68 {t s : Nat} {f : Nat → Nat} : ∀ (r N p : Nat) (x : St), p + r = t → r < N → s ≤ p → TM x t f → gi x 100 8 = nI p → gi x 100 9 = nI s →
    ∃ y, ff_MO_next_68 N x 100 (nI (cdU f s (min (p - s) 6))) (nI (thU f s (p - s))) = ff_MO_next_161 y 100 (nI (cdU f s (min (rn isLe f r p - s) 6))) (nI (thU f s (rn isLe f r p - s))) ∧ onlyK x y ∧ gi y 100 8 = nI (rn isLe f r p) ∧ gi y 100 9 = nI s ∧ gi y 100 11 = gi x 100 11 := by
  intro r
  induction r with
  | zero =>
    intro N p x hp hN hs hT h8 h9
    obtain ⟨N, rfl⟩ : ∃ K, N = K + 1 := ⟨N - 1, by omega⟩
    have ht := hT.1
    refine ⟨x, ?_, onlyK_rf, h8, h9, rfl⟩
    show bnd (ff_MO_here x 100) _ = _
    rw [m_hereE hT h8 (by omega) (by omega), bnd_some, p_in, bnd_some, if_pos (by decide)]; rfl
  | succ r ih =>
    intro N p x hp hN hs hT h8 h9
    obtain ⟨N, rfl⟩ : ∃ K, N = K + 1 := ⟨N - 1, by omega⟩
    have ht := hT.1
    have hb := (hT.2.2 p (by omega)).2
    rw [rn_s]
    cases q : isLe (f p) with
    | false =>
      refine ⟨x, ?_, onlyK_rf, by rw [if_neg (by decide)]; exact h8, h9, rfl⟩
      rw [if_neg (show ¬ false = true by decide)]
      show bnd (ff_MO_here x 100) _ = _
      rw [m_here hT h8 (by omega), bnd_some, p_in, bnd_some, wn_le hb, q, if_pos (show b32 false = 0 from rfl)]
    | true =>
      obtain ⟨c1, c2⟩ := le_rg q
      have o := onlyK_si x (k := 8) (nI (p + 1)) (by omega)
      obtain ⟨y, y1, y2, y3, y4, y5⟩ := ih N (p + 1) _ (by omega) (by omega) (by omega) (TM_K hT o) (gi_si_s _ _ _ _) (by rw [gi_si_n _ _ _ _ (by omega)]; exact h9)
      refine ⟨y, ?_, onlyK_tr o y2, by rw [if_pos rfl]; exact y3, y4, by rw [y5, gi_si_n _ _ _ _ (by omega)]⟩
      rw [if_pos (show true = true from rfl), ← y1]
      show bnd (ff_MO_here x 100) _ = _
      rw [m_here hT h8 (by omega), bnd_some, p_in, bnd_some, wn_le hb, q, show b32 true = 1 from rfl, if_neg (show ¬ (1 : Int32) = 0 by decide), li_eq, h8, h9, pk_sub hs]
      have e147 : ∀ (a b : Int32), ff_MO_next_147 (ff_MO_next_68 N) x 100 a b = ff_MO_next_68 N (si x 100 8 (nI (p + 1))) 100 a b := fun a b => by
        unfold ff_MO_next_147
        rw [st_eq, h8, nI_1]
      by_cases w : 6 ≤ p - s
      · rw [if_pos (show (6 : Int32) ≤ nI (p - s) from nI_le (a := 6) w (by omega))]
        unfold ff_MO_next_116
        have ec : min (p - s) 6 = min (p + 1 - s) 6 := by omega
        rw [ec]
        by_cases w2 : p - s = 6
        · rw [if_pos (by rw [w2]; decide), m_here hT h8 (by omega), bnd_some, e147, show (nI (f p) - 96 : Int32) = nI (thU f s (p + 1 - s)) from by
            rw [show (96 : Int32) = nI 96 from rfl, pk_sub (by omega)]
            unfold thU
            rw [if_neg (by omega), if_pos (by omega), show s + 6 = p by omega]]
        · rw [if_neg (show ¬ nI (p - s) = 6 from nI_eqn (b := 6) (by omega) (by decide) w2), if_neg (show ¬ nI (p - s) ≤ 6 from nI_ge (a := 6) (by omega) (by omega)), e147]
          unfold thU
          rw [if_neg (show ¬ p + 1 - s ≤ 6 by omega), if_neg (show ¬ p + 1 - s = 7 by omega)]; rfl
      · rw [if_neg (show ¬ (6 : Int32) ≤ nI (p - s) from nI_ge (b := 6) (by omega) (by decide)), m_here hT h8 (by omega), bnd_some]
        unfold ff_MO_next_116
        rw [if_neg (show ¬ nI (p - s) = 6 from nI_eqn (b := 6) (by omega) (by decide) (by omega)), if_pos (show nI (p - s) ≤ 6 from nI_le (b := 6) (by omega) (by decide)), e147]
        have e1 : (27 * nI (cdU f s (min (p - s) 6)) + nI (f p) - 96 : Int32) = nI (cdU f s (min (p + 1 - s) 6)) := by
          rw [show (27 * nI (cdU f s (min (p - s) 6)) : Int32) = nI (27 * cdU f s (min (p - s) 6)) from pk_mul 27 _, nI_add, show (96 : Int32) = nI 96 from rfl, pk_sub (by omega), show min (p - s) 6 = p - s by omega, show min (p + 1 - s) 6 = (p - s) + 1 by omega]
          show _ = nI (27 * cdU f s (p - s) + f (s + (p - s)) - 96)
          rw [show s + (p - s) = p by omega]
        have e2 : thU f s (p - s) = thU f s (p + 1 - s) := by unfold thU; rw [if_pos (by omega), if_pos (by omega)]
        rw [e1, e2]
