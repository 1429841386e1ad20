/-! pure rows: numbers -/
theorem st_eq {β : Type} (y : St) (k : St → Option β) : st y k = k y := rfl
theorem li_eq {β : Type} (v : Int32) (k : Int32 → Option β) : li v k = k v := rfl
theorem lj_eq {β : Type} (v : Int64) (k : Int64 → Option β) : lj v k = k v := rfl
theorem qc_n {β : Type} (a : β) (k : Nat → β) : qc none a k = a := rfl
theorem qc_s {β : Type} (q : Nat) (a : β) (k : Nat → β) : qc (some q) a k = k q := rfl
theorem lit32 (n : Nat) : (OfNat.ofNat n : Int32) = nI (OfNat.ofNat n) := rfl
theorem ixb_nI {n N : Nat} (h : n < N) (hn : n < 2 ^ 31) : ixb (nI n) N = true := by
  unfold ixb
  rw [nI_clamp hn]
  simp [nI_pos hn, h]
theorem ix_nI {n : Nat} (hn : n < 2 ^ 31) : ix (nI n) = n := nI_clamp hn
theorem spb_nI {a n N : Nat} (h : a + n ≤ N) (ha : a < 2 ^ 31) (hn : n < 2 ^ 31) : spb (nI a) (nI n) N = true := by
  unfold spb
  rw [nI_clamp ha, nI_clamp hn]
  simp [nI_pos hn, nI_pos ha, h]
def rg (n : Nat) (v : Int32) : Prop := v = nI (ix v) ∧ ix v ≤ n
theorem rg_nI {n k : Nat} (h : k ≤ n) (hn : k < 2 ^ 31) : rg n (nI k) := by
  unfold rg
  rw [ix_nI hn]
  exact ⟨rfl, h⟩
def wn (v a b : Int32) : Int32 := if v < a then 0 else if b < v then 0 else 1
def hs (v n : Int32) : Int32 := if v < 0 then 0 else if n ≤ v then 0 else 1
theorem p_within (x : St) (v a b : Int32) : ff_GG_isWithin x v a b = some (wn v a b, x) := by
  unfold ff_GG_isWithin wn
  by_cases h : v < a
  · rw [if_pos h, if_pos h]
  · rw [if_neg h, if_neg h]
    by_cases h2 : b < v
    · rw [if_pos h2, if_pos h2]
    · rw [if_neg h2, if_neg h2]
theorem p_in (x : St) (v a b : Int32) : ff_MO_in x v a b = some (wn v a b, x) := p_within x v a b
theorem p_has (x : St) (q : Nat) (v : Int32) : ff_LE_has x q v = some (hs v (gi x q 3), x) := by
  unfold ff_LE_has hs
  by_cases h : v < 0
  · rw [if_pos h, if_pos h]
  · rw [if_neg h, if_neg h]
    by_cases h2 : gi x q 3 ≤ v
    · rw [if_pos h2, if_pos h2]
    · rw [if_neg h2, if_neg h2]
theorem zb_wn (v a b : Int32) : zb (wn v a b) = true := by
  unfold wn zb
  by_cases h : v < a
  · rw [if_pos h]; rfl
  · rw [if_neg h]
    by_cases h2 : b < v
    · rw [if_pos h2]; rfl
    · rw [if_neg h2]; rfl
theorem nI_lt_iff {v : Int32} {a : Nat} (ha : a < 2 ^ 31) : v < nI a ↔ v.toInt < a := by rw [Int32.lt_iff_toInt_lt, nI_toInt ha]
theorem lt_nI_iff {v : Int32} {a : Nat} (ha : a < 2 ^ 31) : nI a < v ↔ (a : Int) < v.toInt := by rw [Int32.lt_iff_toInt_lt, nI_toInt ha]
theorem nI_le_iff {v : Int32} {a : Nat} (ha : a < 2 ^ 31) : v ≤ nI a ↔ v.toInt ≤ a := by rw [Int32.le_iff_toInt_le, nI_toInt ha]
theorem le_nI_iff {v : Int32} {a : Nat} (ha : a < 2 ^ 31) : nI a ≤ v ↔ (a : Int) ≤ v.toInt := by rw [Int32.le_iff_toInt_le, nI_toInt ha]
theorem of_toInt {v : Int32} {n : Nat} (hn : n < 2 ^ 31) (h : v.toInt = n) : v = nI n := Int32.toInt_inj.mp (by rw [h, nI_toInt hn])
theorem wn_nat {v : Int32} {a b : Nat} (ha : a < 2 ^ 31) (hb : b < 2 ^ 31) (h : ¬ wn v (nI a) (nI b) = 0) : ∃ n : Nat, a ≤ n ∧ n ≤ b ∧ v = nI n := by
  unfold wn at h
  by_cases h1 : v < nI a
  · rw [if_pos h1] at h; exact absurd rfl h
  · rw [if_neg h1] at h
    by_cases h2 : nI b < v
    · rw [if_pos h2] at h; exact absurd rfl h
    · rw [nI_lt_iff ha] at h1
      rw [lt_nI_iff hb] at h2
      refine ⟨v.toInt.toNat, by omega, by omega, of_toInt (by omega) (by omega)⟩
theorem wn_yes {n a b : Nat} (ha : a ≤ n) (hb : n ≤ b) (h : b < 2 ^ 31) : wn (nI n) (nI a) (nI b) = 1 := by
  unfold wn
  rw [if_neg (nI_nlt ha (by omega)), if_neg (nI_nlt hb h)]
theorem hs_wn {v : Int32} {n : Nat} (hn : n < 2 ^ 31) : hs v (nI n) = wn v 0 (nI n - 1) := by
  unfold hs wn
  by_cases h : v < 0
  · rw [if_pos h, if_pos h]
  · rw [if_neg h, if_neg h]
    have h0 : ¬ v < nI 0 := h
    rw [nI_lt_iff (by decide)] at h0
    cases n with
    | zero =>
      have e : nI 0 - 1 = -1 := by decide
      rw [e, if_pos, if_pos]
      · rw [Int32.lt_iff_toInt_lt, show ((-1 : Int32)).toInt = -1 from by decide]; omega
      · rw [le_nI_iff (by decide)]; omega
    | succ k =>
      rw [nI_pred]
      by_cases h2 : nI (k + 1) ≤ v
      · rw [if_pos h2, if_pos]
        rw [le_nI_iff hn] at h2
        rw [lt_nI_iff (by omega)]
        omega
      · rw [if_neg h2, if_neg]
        rw [le_nI_iff hn] at h2
        rw [lt_nI_iff (by omega)]
        omega
theorem hs_nat {v : Int32} {n : Nat} (hn : n < 2 ^ 31) (h : ¬ hs v (nI n) = 0) : ∃ k : Nat, k < n ∧ v = nI k := by
  unfold hs at h
  by_cases h1 : v < 0
  · rw [if_pos h1] at h; exact absurd rfl h
  · rw [if_neg h1] at h
    by_cases h2 : nI n ≤ v
    · rw [if_pos h2] at h; exact absurd rfl h
    · rw [le_nI_iff hn] at h2
      have h0 : ¬ v < nI 0 := h1
      rw [nI_lt_iff (by decide)] at h0
      exact ⟨v.toInt.toNat, by omega, of_toInt (by omega) (by omega)⟩
theorem hs_yes {k n : Nat} (h : k < n) (hn : n < 2 ^ 31) : hs (nI k) (nI n) = 1 := by
  unfold hs
  rw [if_neg (nI_pos (by omega)), if_neg (nI_ge h hn)]
theorem hs_neg (n : Int32) : hs (-1) n = 0 := by
  unfold hs
  rw [if_pos (by decide)]
theorem nI_ne_m1 {n : Nat} (hn : n < 2 ^ 31) : ¬ nI n = -1 := by
  intro h
  have a := nI_toInt hn
  rw [h, show ((-1 : Int32)).toInt = -1 from by decide] at a
  omega
theorem imax_nI {a b : Nat} (ha : a < 2 ^ 31) (hb : b < 2 ^ 31) : imax (nI a) (nI b) = nI (max a b) := by
  unfold imax
  by_cases h : a < b
  · rw [if_pos (nI_lt h hb), Nat.max_eq_right (by omega)]
  · rw [if_neg (nI_nlt (by omega) ha), Nat.max_eq_left (by omega)]
theorem imin_nI {a b : Nat} (ha : a < 2 ^ 31) (hb : b < 2 ^ 31) : imin (nI a) (nI b) = nI (min a b) := by
  unfold imin
  by_cases h : b < a
  · rw [if_pos (nI_lt h ha), Nat.min_eq_right (by omega)]
  · rw [if_neg (nI_nlt (by omega) hb), Nat.min_eq_left (by omega)]
/-! one shop's places -/
def sp (s : Nat) : Prop := s = 16 ∨ s = 36 ∨ s = 56 ∨ s = 76
theorem sp_rf {s : Nat} (h : sp s) : rf s 0 = s + 1 ∧ rf s 1 = s + 3 ∧ rf s 2 = s + 5 ∧ rf s 3 = s + 7 ∧ rf s 4 = s + 9 ∧ rf s 5 = s + 11 ∧ rf s 6 = s + 18 ∧ rf s 7 = s + 19 := by
  rcases h with rfl | rfl | rfl | rfl <;> decide
theorem sp_le {s : Nat} (h : sp s) : rf (s + 1) 2 = s + 2 ∧ rf (s + 3) 2 = s + 4 ∧ rf (s + 5) 2 = s + 6 ∧ rf (s + 7) 2 = s + 8 ∧ rf (s + 9) 2 = s + 10 := by
  rcases h with rfl | rfl | rfl | rfl <;> decide
theorem sp_ln {s : Nat} (h : sp s) : ln (s + 2) = 18 ∧ ln (s + 4) = 6 ∧ ln (s + 6) = 8 ∧ ln (s + 8) = 30 ∧ ln (s + 10) = 18 ∧ ln (s + 11) = 6 ∧ ln (s + 18) = 18 ∧ ln (s + 19) = 190 := by
  rcases h with rfl | rfl | rfl | rfl <;> decide
theorem sp_row {s m : Nat} (h : sp s) (hm : m < 6) : rf (s + 11) m = s + 12 + m ∧ ln (s + 12 + m) = 100 := by
  rcases h with rfl | rfl | rfl | rfl <;> (revert m; decide)
