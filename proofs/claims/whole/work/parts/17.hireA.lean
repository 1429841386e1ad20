/-! who can boil, and till when: the words -/
theorem fb_andL (a b : Nat) : lN a &&& lN b = lN (a &&& b) := by
  apply Int64.toBitVec_inj.1
  show BitVec.ofNat 64 a &&& BitVec.ofNat 64 b = BitVec.ofNat 64 (a &&& b)
  apply BitVec.eq_of_getLsbD_eq
  intro i hi
  simp [hi]
theorem fb_orL (a b : Nat) : lN a ||| lN b = lN (a ||| b) := by
  apply Int64.toBitVec_inj.1
  show BitVec.ofNat 64 a ||| BitVec.ofNat 64 b = BitVec.ofNat 64 (a ||| b)
  apply BitVec.eq_of_getLsbD_eq
  intro i hi
  simp [hi]
theorem fb_lN_inj {a b : Nat} (ha : a < 2 ^ 63) (hb : b < 2 ^ 63) : lN a = lN b ↔ a = b := by
  constructor
  · intro h
    have h1 : (BitVec.ofNat 64 a).toNat = (BitVec.ofNat 64 b).toNat := congrArg (fun x : Int64 => x.toBitVec.toNat) h
    rw [BitVec.toNat_ofNat, BitVec.toNat_ofNat, Nat.mod_eq_of_lt (by omega), Nat.mod_eq_of_lt (by omega)] at h1
    exact h1
  · rintro rfl; rfl
theorem fb_bit_nat (n j : Nat) : n &&& 2 ^ j = 0 ↔ n.testBit j = false := by
  constructor
  · intro h
    have h1 : (n &&& 2 ^ j).testBit j = false := by rw [h]; simp
    rw [Nat.testBit_and] at h1
    simpa using h1
  · intro h
    apply Nat.eq_of_testBit_eq
    intro i
    rw [Nat.testBit_and]
    by_cases e : j = i
    · subst e; simp [h]
    · first | (simp [Nat.testBit_two_pow, e]; done) | (simp [Nat.testBit_two_pow_of_ne e]; done)
theorem fb_bitL {n j : Nat} (hj : j < 63) : lN n &&& lN (2 ^ j) = 0 ↔ n.testBit j = false := by
  have h2 : (2 : Nat) ^ j < 2 ^ 63 := Nat.pow_lt_pow_right (by decide) hj
  have hle : n &&& 2 ^ j ≤ 2 ^ j := Nat.and_le_right
  rw [fb_andL, ← fb_bit_nat, show (0 : Int64) = lN 0 from rfl]
  exact fb_lN_inj (by omega) (by decide)
theorem cmp0 (z : Int64) : lg_cmp z 0 = 0 ↔ z = 0 := by
  unfold lg_cmp
  by_cases h : z > 0
  · rw [if_pos h]
    constructor
    · intro q; exact absurd q (by decide)
    · intro q; rw [q] at h; exact absurd h (by decide)
  · rw [if_neg h]
    by_cases h2 : z = 0
    · rw [if_pos h2]; exact ⟨fun _ => h2, fun _ => rfl⟩
    · rw [if_neg h2]
      constructor
      · intro q; exact absurd q (by decide)
      · intro q; exact absurd q h2
theorem pairN {a b : Nat} (ha : a < 6) (hb : b < 6) : (1 : Int64) <<< (((nI a * 6) + nI b : Int32).toInt64 &&& 63) = lN (2 ^ (6 * a + b)) :=
  (by decide +kernel : ∀ a, a < 6 → ∀ b, b < 6 → (1 : Int64) <<< (((nI a * 6) + nI b : Int32).toInt64 &&& 63) = lN (2 ^ (6 * a + b))) a ha b hb
theorem allU_s (c : Nat → Bool) : ∀ (n j : Nat), allU c j (n + 1) = (allU c j n && c (j + n))
  | 0, j => by simp [allU]
  | n + 1, j => by
    show (c j && allU c (j + 1) (n + 1)) = ((c j && allU c (j + 1) n) && c (j + (n + 1)))
    rw [allU_s c n (j + 1), Bool.and_assoc, show j + 1 + n = j + (n + 1) by omega]
theorem allU_cg {c c' : Nat → Bool} : ∀ (n j : Nat), (∀ i, j ≤ i → i < j + n → c i = c' i) → allU c j n = allU c' j n
  | 0, _, _ => rfl
  | n + 1, j, h => by
    show (c j && allU c (j + 1) n) = (c' j && allU c' (j + 1) n)
    rw [h j (by omega) (by omega), allU_cg n (j + 1) (fun i h1 h2 => h i (by omega) (by omega))]
theorem allU_ext {c : Nat → Bool} : ∀ (k n j : Nat), (∀ i, j + n ≤ i → i < j + n + k → c i = true) → allU c j (n + k) = allU c j n
  | 0, _, _, _ => rfl
  | k + 1, n, j, h => by
    rw [show n + (k + 1) = (n + k) + 1 by omega, allU_s, allU_ext k n j (fun i h1 h2 => h i h1 (by omega)), h (j + (n + k)) (by omega) (by omega), Bool.and_true]
theorem fw_all (f : Nat → Nat) (load : Nat) : ∀ (n d : Nat), (d + n ≤ fw f load d n ↔ allU (fun e => decide (load ≤ f e)) d n = true)
  | 0, d => by simp [fw, allU]
  | n + 1, d => by
    have h1 := fw_all f load n (d + 1)
    have h2 := fw_le f load n (d + 1)
    show _ ↔ (decide (load ≤ f d) && allU (fun e => decide (load ≤ f e)) (d + 1) n) = true
    unfold fw
    by_cases h : load ≤ f d
    · rw [if_pos h, show d + (n + 1) = d + 1 + n by omega, h1]
      simp [h]
    · rw [if_neg h]
      simp [h]
theorem m1_lt {n : Nat} (h : n < 2 ^ 31) : (-1 : Int32) < nI n := by
  rw [Int32.lt_iff_toInt_lt, nI_toInt h, show ((-1 : Int32)).toInt = -1 from by decide]
  omega
/-- till when a joint is to hold, by the first p pieces; -1: it needs nobody -/
def TI (g : Nat → Int32) (j : Nat) : Nat → Int32
  | 0 => -1
  | p + 1 => if (!lasB g p && bN (ix (g (49 + 2 * p))) j) = true then imax (TI g j p) (nI (tlN g p)) else TI g j p
theorem TI_s (g : Nat → Int32) (j p : Nat) : TI g j (p + 1) = if (!lasB g p && bN (ix (g (49 + 2 * p))) j) = true then imax (TI g j p) (nI (tlN g p)) else TI g j p := rfl
def tiF (g : Nat → Int32) (j : Nat) : Int32 := TI g j (ix (g 2))
theorem TI_ok {g : Nat → Int32} (hI : InvG g) (j : Nat) : ∀ p, p ≤ ix (g 2) → TI g j p = -1 ∨ ∃ t, t ≤ 99 ∧ ix (g 5) ≤ t ∧ TI g j p = nI t
  | 0, _ => Or.inl rfl
  | p + 1, hp => by
    have hd2 := hI.1.2.2.2.2.2.1.2
    have hl2 := (hI.2.2.2.1 p (by omega)).2.2.2
    have ih := TI_ok hI j p (by omega)
    rw [TI_s]
    by_cases c : (!lasB g p && bN (ix (g (49 + 2 * p))) j) = true
    · rw [if_pos c]
      right
      rcases ih with e | ⟨t, h1, h2, e⟩
      · refine ⟨tlN g p, by unfold tlN; omega, by unfold tlN; omega, ?_⟩
        rw [e]
        unfold imax
        rw [if_pos (m1_lt (by unfold tlN; omega))]
      · refine ⟨max t (tlN g p), by unfold tlN; omega, by omega, ?_⟩
        rw [e, imax_nI (by omega) (by unfold tlN; omega)]
    · rw [if_neg c]
      exact ih
theorem bN_out {n j : Nat} (h : n < 2 ^ j) : bN n j = false := by
  unfold bN
  rw [Nat.div_eq_of_lt h]
  rfl
theorem TI_out {g : Nat → Int32} (hI : InvG g) {j : Nat} (hj : ix (g 1) ≤ j) : ∀ p, p ≤ ix (g 2) → TI g j p = -1
  | 0, _ => rfl
  | p + 1, hp => by
    have r2 := (hI.2.2.2.1 p (by omega)).1.2
    have h64 : 2 ^ ix (g 1) ≤ 2 ^ j := Nat.pow_le_pow_right (by decide) hj
    have h1 : 0 < 2 ^ ix (g 1) := Nat.pos_of_ne_zero (by simp)
    rw [TI_s, bN_out (by omega), Bool.and_false, if_neg (by decide), TI_out hI hj p (by omega)]
/-- a and c (none: -1) could hold the joint j till a day -/
def WHB (g : Nat → Int32) (j a : Nat) (c : Int32) (t : Nat) : Bool := allU (fun e => decide (ix (g (25 + 4 * j)) ≤ SG g (-1) a c e)) (ix (g 5)) (t + 1 - ix (g 5))
def fB (g : Nat → Int32) (j a b : Nat) : Bool := WHB g j a (if a = b then -1 else nI b) (ix (tiF g j))
def who3 (g : Nat → Int32) (j z a : Nat) (rest : Int32) : Nat → Nat → Int32
  | _, 0 => rest
  | b, n + 1 => if (bN z a && (bN z b && fB g j a b)) = true then nI (10 * a + b) else who3 g j z a rest (b + 1) n
def who2 (g : Nat → Int32) (j z : Nat) : Nat → Nat → Int32
  | _, 0 => -1
  | a, n + 1 => who3 g j z a (who2 g j z (a + 1) n) (a + 1) (ix (g 0) - (a + 1))
def who1 (g : Nat → Int32) (j z : Nat) : Nat → Nat → Int32
  | _, 0 => who2 g j z 0 (ix (g 0))
  | a, n + 1 => if (bN z a && fB g j a a) = true then nI (60 + a) else who1 g j z (a + 1) n
/-- the first of the set z that can boil j -/
def whoF (g : Nat → Int32) (j z : Nat) : Int32 := who1 g j z 0 (ix (g 0))
def prU (g : Nat → Int32) (z : Nat) : Nat → Nat → Nat → Nat
  | _, 0, v => v
  | m, n + 1, v => prU g z (m + 1) n (if bN z m = true then v + ix (g (9 + 3 * m)) else v)
def prF (g : Nat → Int32) (z : Nat) : Nat := prU g z 0 (ix (g 0)) 0
theorem prU_le {g : Nat → Int32} {z : Nat} (hI : InvG g) : ∀ (n m v : Nat), m + n ≤ ix (g 0) → prU g z m n v ≤ v + 99 * n
  | 0, _, v, _ => Nat.le_refl v
  | n + 1, m, v, h => by
    have h1 := (hI.2.1 m (by omega)).2.2.2
    have h2 := prU_le (z := z) hI n (m + 1) (if bN z m = true then v + ix (g (9 + 3 * m)) else v) (by omega)
    have h3 : (if bN z m = true then v + ix (g (9 + 3 * m)) else v) ≤ v + 99 := by split <;> omega
    show prU g z (m + 1) n _ ≤ _
    omega
theorem prF_le {g : Nat → Int32} (hI : InvG g) (z : Nat) : prF g z ≤ 594 := by
  have := prU_le (z := z) hI (ix (g 0)) 0 0 (by omega)
  have h2 := hI.1.1.2
  unfold prF
  omega
def enB (g : Nat → Int32) (z : Nat) : Bool := allU (fun j => decide (tiF g j = -1 ∨ ¬ whoF g j z = -1)) 0 6
def okS (g : Nat → Int32) (but best : Int32) (z : Nat) : Bool := decide (but = -1 ∨ bN z (ix but) = false) && (decide (best = -1 ∨ prF g z < prF g (ix best)) && enB g z)
def chU (g : Nat → Int32) (but : Int32) : Nat → Nat → Int32 → Int32
  | _, 0, best => best
  | z, n + 1, best => chU g but (z + 1) n (if okS g but best z = true then nI z else best)
/-- the cheapest set, without one -/
def chF (g : Nat → Int32) (but : Int32) : Int32 := chU g but 0 (2 ^ ix (g 0)) (-1)
