/-! reading: where a token begins and ends -/
def isSp (b : Nat) : Bool := decide (b = 32)
def isLe (b : Nat) : Bool := decide (97 ≤ b ∧ b ≤ 122)
def isFi (b : Nat) : Bool := decide (48 ≤ b ∧ b ≤ 57)
def rn (P : Nat → Bool) (f : Nat → Nat) : Nat → Nat → Nat
  | 0, p => p
  | n + 1, p => if P (f p) = true then rn P f n (p + 1) else p
theorem rn_s (P : Nat → Bool) (f : Nat → Nat) (n p : Nat) : rn P f (n + 1) p = if P (f p) = true then rn P f n (p + 1) else p := rfl
theorem rn_le (P : Nat → Bool) (f : Nat → Nat) : ∀ n p, rn P f n p ≤ p + n
  | 0, p => Nat.le_refl p
  | n + 1, p => by
    have := rn_le P f n (p + 1)
    rw [rn_s]
    split <;> omega
theorem rn_ge (P : Nat → Bool) (f : Nat → Nat) : ∀ n p, p ≤ rn P f n p
  | 0, p => Nat.le_refl p
  | n + 1, p => by
    have := rn_ge P f n (p + 1)
    rw [rn_s]
    split <;> omega
def tkS (f : Nat → Nat) (t p : Nat) : Nat := rn isSp f (t - p) p
def tkE (f : Nat → Nat) (t p : Nat) : Nat := if tkS f t p = t then tkS f t p else if isLe (f (tkS f t p)) = true then rn isLe f (t - tkS f t p) (tkS f t p) else if isFi (f (tkS f t p)) = true then rn isFi f (t - tkS f t p) (tkS f t p) else tkS f t p + 1
/-- 0 end, 1 word, 2 number, 3 stop, 4 other -/
def tkC (f : Nat → Nat) (t p : Nat) : Nat := if tkS f t p = t then 0 else if isLe (f (tkS f t p)) = true then 1 else if isFi (f (tkS f t p)) = true then (if 2 < tkE f t p - tkS f t p then 4 else 2) else if f (tkS f t p) = 59 then 3 else 4
/-- the number of at most two figures from s on, up to e -/
def tkV (f : Nat → Nat) (s e : Nat) : Nat := if e ≤ s then 0 else if e = s + 1 then f s - 48 else 10 * (f s - 48) + f (s + 1) - 48
theorem tkS_le {f : Nat → Nat} {t p : Nat} (h : p ≤ t) : p ≤ tkS f t p ∧ tkS f t p ≤ t := by
  have h1 := rn_ge isSp f (t - p) p
  have h2 := rn_le isSp f (t - p) p
  unfold tkS
  omega
theorem tkE_le {f : Nat → Nat} {t p : Nat} (h : p ≤ t) : tkS f t p ≤ tkE f t p ∧ tkE f t p ≤ t := by
  have hs := tkS_le (f := f) h
  have h1 := rn_ge isLe f (t - tkS f t p) (tkS f t p)
  have h2 := rn_le isLe f (t - tkS f t p) (tkS f t p)
  have h3 := rn_ge isFi f (t - tkS f t p) (tkS f t p)
  have h4 := rn_le isFi f (t - tkS f t p) (tkS f t p)
  unfold tkE
  split
  · omega
  · split
    · omega
    · split <;> omega
/-- the class's text -/
def TX (c : St) (t : Nat) (f : Nat → Nat) : Prop := t ≤ 250 ∧ gi c 3 1 = nI t ∧ ∀ i, i < t → gi c 4 i = nI (f i) ∧ f i ≤ 255
theorem c_isLetter (x : St) {b : Nat} (hb : b ≤ 255) : ff_RE_isLetter x (nI b) = some (b32 (isLe b), x) := by
  unfold ff_RE_isLetter isLe
  by_cases h1 : b < 97
  · rw [if_pos (show nI b < 97 from nI_lt (b := 97) h1 (by decide)), show decide (97 ≤ b ∧ b ≤ 122) = false from decide_eq_false (by omega)]; rfl
  · rw [if_neg (show ¬ nI b < 97 from nI_nlt (b := 97) (by omega) (by omega))]
    by_cases h2 : 122 < b
    · rw [if_pos (show (122 : Int32) < nI b from nI_lt (a := 122) h2 (by omega)), show decide (97 ≤ b ∧ b ≤ 122) = false from decide_eq_false (by omega)]; rfl
    · rw [if_neg (show ¬ (122 : Int32) < nI b from nI_nlt (a := 122) (by omega) (by decide)), show decide (97 ≤ b ∧ b ≤ 122) = true from decide_eq_true (by omega)]; rfl
theorem c_isFigure (x : St) {b : Nat} (hb : b ≤ 255) : ff_RE_isFigure x (nI b) = some (b32 (isFi b), x) := by
  unfold ff_RE_isFigure isFi
  by_cases h1 : b < 48
  · rw [if_pos (show nI b < 48 from nI_lt (b := 48) h1 (by decide)), show decide (48 ≤ b ∧ b ≤ 57) = false from decide_eq_false (by omega)]; rfl
  · rw [if_neg (show ¬ nI b < 48 from nI_nlt (b := 48) (by omega) (by omega))]
    by_cases h2 : 57 < b
    · rw [if_pos (show (57 : Int32) < nI b from nI_lt (a := 57) h2 (by omega)), show decide (48 ≤ b ∧ b ≤ 57) = false from decide_eq_false (by omega)]; rfl
    · rw [if_neg (show ¬ (57 : Int32) < nI b from nI_nlt (a := 57) (by omega) (by decide)), show decide (48 ≤ b ∧ b ≤ 57) = true from decide_eq_true (by omega)]; rfl
/-- only the reader's own numbers -/
def only3 (x y : St) : Prop := (∀ a k, ¬ (a = 3 ∧ (k = 2 ∨ k = 5 ∨ k = 6 ∨ k = 7)) → gi y a k = gi x a k) ∧ ∀ a k, gl y a k = gl x a k
theorem only3_rf {x : St} : only3 x x := ⟨fun _ _ _ => rfl, fun _ _ => rfl⟩
theorem only3_tr {x y z : St} (h1 : only3 x y) (h2 : only3 y z) : only3 x z := ⟨fun a k h => (h2.1 a k h).trans (h1.1 a k h), fun a k => (h2.2 a k).trans (h1.2 a k)⟩
theorem only3_si (x : St) {k : Nat} (v : Int32) (hk : k = 2 ∨ k = 5 ∨ k = 6 ∨ k = 7) : only3 x (si x 3 k v) := ⟨fun a j h => gi_si_n _ _ _ _ (fun e => h ⟨e.1, by omega⟩), fun _ _ => rfl⟩
theorem TX_3 {x y : St} {t : Nat} {f : Nat → Nat} (h : TX x t f) (o : only3 x y) : TX y t f := ⟨h.1, by rw [o.1 _ _ (by omega)]; exact h.2.1, fun i hi => by rw [o.1 _ _ (by omega)]; exact h.2.2 i hi⟩
theorem c_letters {t : Nat} {f : Nat → Nat} : ∀ (r N p : Nat) (x : St), p + r = t → r < N → TX x t f → gi x 3 2 = nI p → ∃ y, ff_RE_readLetters_5 N x 3 = some ((), y) ∧ only3 x y ∧ gi y 3 2 = nI (rn isLe f r p) ∧ gi y 3 5 = gi x 3 5 ∧ gi y 3 6 = gi x 3 6 ∧ gi y 3 7 = gi x 3 7 := by
  intro r
  induction r with
  | zero =>
    intro N p x hp hN hT h2
    obtain ⟨N, rfl⟩ : ∃ K, N = K + 1 := ⟨N - 1, by omega⟩
    have ht := hT.1
    refine ⟨x, ?_, only3_rf, h2, rfl, rfl, rfl⟩
    show (if gi x 3 1 ≤ gi x 3 2 then _ else _) = _
    rw [hT.2.1, h2, if_pos (nI_le (by omega) (by omega))]
  | succ r ih =>
    intro N p x hp hN hT h2
    obtain ⟨N, rfl⟩ : ∃ K, N = K + 1 := ⟨N - 1, by omega⟩
    have ht := hT.1
    obtain ⟨b1, b2⟩ := hT.2.2 p (by omega)
    have e0 : ff_RE_readLetters_5 (N + 1) x 3 = if b32 (isLe (f p)) = 0 then some ((), x) else ff_RE_readLetters_5 N (si x 3 2 (nI (p + 1))) 3 := by
      show (if gi x 3 1 ≤ gi x 3 2 then _ else _) = _
      rw [hT.2.1, h2, if_neg (nI_ge (by omega) (by omega)), show rf 3 0 = 4 from rfl, show ln 4 = 250 from rfl, if_pos (ixb_nI (by omega) (by omega)), ix_nI (by omega), b1, c_isLetter x b2, bnd_some, st_eq, h2, nI_1]
    rw [e0, rn_s]
    cases q : isLe (f p) with
    | false => exact ⟨x, by rw [if_pos (show b32 false = 0 from rfl)], only3_rf, by rw [if_neg (by decide)]; exact h2, rfl, rfl, rfl⟩
    | true =>
      have o := only3_si x (k := 2) (nI (p + 1)) (by omega)
      obtain ⟨y, y1, y2, y3, y4, y5, y6⟩ := ih N (p + 1) _ (by omega) (by omega) (TX_3 hT o) (gi_si_s _ _ _ _)
      refine ⟨y, by rw [show b32 true = 1 from rfl, if_neg (by decide)]; exact y1, only3_tr o y2, by rw [if_pos rfl]; exact y3, ?_, ?_, ?_⟩
      · rw [y4, gi_si_n _ _ _ _ (by omega)]
      · rw [y5, gi_si_n _ _ _ _ (by omega)]
      · rw [y6, gi_si_n _ _ _ _ (by omega)]
theorem fi_rg {b : Nat} (h : isFi b = true) : 48 ≤ b ∧ b ≤ 57 := by
  unfold isFi at h
  exact of_decide_eq_true h
theorem c_figures {t s : Nat} {f : Nat → Nat} : ∀ (r N p : Nat) (x : St), p + r = t → r < N → s ≤ p → (∀ i, s ≤ i → i < p → isFi (f i) = true) → TX x t f → gi x 3 2 = nI p → gi x 3 6 = nI s → gi x 3 7 = nI (tkV f s p) → ∃ y, ff_RE_readFigures_0 N x 3 = some ((), y) ∧ only3 x y ∧ gi y 3 2 = nI (rn isFi f r p) ∧ gi y 3 5 = nI (if 2 < rn isFi f r p - s then 4 else 2) ∧ gi y 3 6 = nI s ∧ gi y 3 7 = nI (tkV f s (rn isFi f r p)) := by
  have fin : ∀ (p : Nat) (x : St), s ≤ p → p ≤ 250 → gi x 3 2 = nI p → gi x 3 6 = nI s → gi x 3 7 = nI (tkV f s p) → ∃ y, ff_RE_readFigures_76 x 3 = some ((), y) ∧ only3 x y ∧ gi y 3 2 = nI p ∧ gi y 3 5 = nI (if 2 < p - s then 4 else 2) ∧ gi y 3 6 = nI s ∧ gi y 3 7 = nI (tkV f s p) := by
    intro p x hs hp h2 h6 h7
    unfold ff_RE_readFigures_76
    rw [h2, h6, pk_sub hs]
    by_cases q : 2 < p - s
    · refine ⟨si x 3 5 4, by rw [if_pos (show (2 : Int32) < nI (p - s) from nI_lt (a := 2) q (by omega)), st_eq], only3_si _ _ (by omega), ?_, by rw [gi_si_s, if_pos q]; rfl, ?_, ?_⟩
      · rw [gi_si_n _ _ _ _ (by omega)]; exact h2
      · rw [gi_si_n _ _ _ _ (by omega)]; exact h6
      · rw [gi_si_n _ _ _ _ (by omega)]; exact h7
    · refine ⟨si x 3 5 2, by rw [if_neg (show ¬ (2 : Int32) < nI (p - s) from nI_nlt (a := 2) (by omega) (by decide)), st_eq], only3_si _ _ (by omega), ?_, by rw [gi_si_s, if_neg q]; rfl, ?_, ?_⟩
      · rw [gi_si_n _ _ _ _ (by omega)]; exact h2
      · rw [gi_si_n _ _ _ _ (by omega)]; exact h6
      · rw [gi_si_n _ _ _ _ (by omega)]; exact h7
  intro r
  induction r with
  | zero =>
    intro N p x hp hN hs hd hT h2 h6 h7
    obtain ⟨N, rfl⟩ : ∃ K, N = K + 1 := ⟨N - 1, by omega⟩
    have ht := hT.1
    have e0 : ff_RE_readFigures_0 (N + 1) x 3 = ff_RE_readFigures_76 x 3 := by
      show (if gi x 3 1 ≤ gi x 3 2 then _ else _) = _
      rw [hT.2.1, h2, if_pos (nI_le (by omega) (by omega))]
    rw [e0]
    exact fin p x hs (by omega) h2 h6 h7
  | succ r ih =>
    intro N p x hp hN hs hd hT h2 h6 h7
    obtain ⟨N, rfl⟩ : ∃ K, N = K + 1 := ⟨N - 1, by omega⟩
    have ht := hT.1
    obtain ⟨b1, b2⟩ := hT.2.2 p (by omega)
    rw [rn_s]
    cases q : isFi (f p) with
    | false =>
      have e0 : ff_RE_readFigures_0 (N + 1) x 3 = ff_RE_readFigures_76 x 3 := by
        show (if gi x 3 1 ≤ gi x 3 2 then _ else _) = _
        rw [hT.2.1, h2, if_neg (nI_ge (by omega) (by omega)), show rf 3 0 = 4 from rfl, show ln 4 = 250 from rfl, if_pos (ixb_nI (by omega) (by omega)), ix_nI (by omega), b1, c_isFigure x b2, bnd_some, q, if_pos (show b32 false = 0 from rfl)]
      rw [e0, if_neg (by decide)]
      exact fin p x hs (by omega) h2 h6 h7
    | true =>
      obtain ⟨c1, c2⟩ := fi_rg q
      rw [if_pos rfl]
      have e0 : ff_RE_readFigures_0 (N + 1) x 3 = if (2 : Int32) ≤ nI (p - s) then ff_RE_readFigures_0 N (si x 3 2 (nI (p + 1))) 3 else ff_RE_readFigures_0 N (si (si x 3 7 (10 * nI (tkV f s p) + nI (f p) - 48)) 3 2 (nI (p + 1))) 3 := by
        show (if gi x 3 1 ≤ gi x 3 2 then _ else _) = _
        rw [hT.2.1, h2, if_neg (nI_ge (by omega) (by omega)), show rf 3 0 = 4 from rfl, show ln 4 = 250 from rfl, if_pos (ixb_nI (by omega) (by omega)), ix_nI (by omega), b1, c_isFigure x b2, bnd_some, q, show b32 true = 1 from rfl, if_neg (by decide), h2, h6, h7, if_pos (ixb_nI (by omega) (by omega)), ix_nI (by omega), b1, pk_sub hs, st_eq, st_eq, st_eq, gi_si_n _ _ _ _ (by omega), h2, nI_1]
      have hd' : ∀ i, s ≤ i → i < p + 1 → isFi (f i) = true := fun i h1 h3 => by
        by_cases z : i = p
        · rw [z]; exact q
        · exact hd i h1 (by omega)
      rw [e0]
      by_cases w : 2 ≤ p - s
      · rw [if_pos (show (2 : Int32) ≤ nI (p - s) from nI_le (a := 2) w (by omega))]
        have o := only3_si x (k := 2) (nI (p + 1)) (by omega)
        obtain ⟨y, y1, y2, y3, y4, y5, y6⟩ := ih N (p + 1) _ (by omega) (by omega) (by omega) hd' (TX_3 hT o) (gi_si_s _ _ _ _) (by rw [gi_si_n _ _ _ _ (by omega)]; exact h6) (by
          rw [gi_si_n _ _ _ _ (by omega), h7]
          unfold tkV
          rw [if_neg (by omega), if_neg (by omega), if_neg (by omega), if_neg (by omega)])
        exact ⟨y, y1, only3_tr o y2, y3, y4, y5, y6⟩
      · rw [if_neg (show ¬ (2 : Int32) ≤ nI (p - s) from nI_ge (b := 2) (by omega) (by decide))]
        have ev : (10 * nI (tkV f s p) + nI (f p) - 48 : Int32) = nI (tkV f s (p + 1)) := by
          rw [show (10 * nI (tkV f s p) : Int32) = nI (10 * tkV f s p) from pk_mul 10 _, nI_add, show (48 : Int32) = nI 48 from rfl, pk_sub (by omega)]
          congr 1
          unfold tkV
          by_cases z : p = s
          · subst z
            rw [if_pos (by omega), if_neg (by omega), if_pos rfl]; omega
          · have hp1 : p = s + 1 := by omega
            subst hp1
            rw [if_neg (by omega), if_pos rfl, if_neg (by omega), if_neg (by omega)]
        rw [ev]
        have o : only3 x (si (si x 3 7 (nI (tkV f s (p + 1)))) 3 2 (nI (p + 1))) := only3_tr (only3_si x _ (by omega)) (only3_si _ _ (by omega))
        obtain ⟨y, y1, y2, y3, y4, y5, y6⟩ := ih N (p + 1) _ (by omega) (by omega) (by omega) hd' (TX_3 hT o) (gi_si_s _ _ _ _) (by rw [gi_si_n _ _ _ _ (by omega), gi_si_n _ _ _ _ (by omega)]; exact h6) (by rw [gi_si_n _ _ _ _ (by omega), gi_si_s])
        exact ⟨y, y1, only3_tr o y2, y3, y4, y5, y6⟩
