/-! words -/
def lnW (k : Nat) : Nat := strL.getD k 0
def chW (k i : Nat) : Nat := ix ((((strB.getD k []).getD i 0 &&& 255).toUInt32 % 65536).toInt32)
theorem lnW_le : ∀ k, k < 7 → lnW k ≤ 7 := by decide +kernel
theorem chW_ok : ∀ k : Fin 7, ∀ i : Fin 7, i.val < lnW k.val → (((strB.getD k.val []).getD i.val 0 &&& 255).toUInt32 % 65536).toInt32 = nI (chW k.val i.val) ∧ chW k.val i.val ≤ 255 := by decide +kernel
theorem p_len (x : St) {k : Nat} (hk : k < 7) : ff_ST_length x k = some (nI (lnW k), x) := by
  have : ∀ k : Fin 7, (Int32.ofNat (strL.getD k.val 0) >>> ((0 : Int32) &&& 31)) = nI (lnW k.val) := by decide +kernel
  unfold ff_ST_length
  rw [this ⟨k, hk⟩]
theorem p_char (x : St) {k i : Nat} (hk : k < 7) (hi : i < lnW k) : ff_ST_charAt x k (nI i) = some (nI (chW k i), x) ∧ chW k i ≤ 255 := by
  have h7 := lnW_le k hk
  obtain ⟨h1, h2⟩ := chW_ok ⟨k, hk⟩ ⟨i, by omega⟩ hi
  refine ⟨?_, h2⟩
  unfold ff_ST_charAt
  rw [if_pos (show ixb (nI i) (strL.getD k 0) = true from ixb_nI hi (by omega)), ix_nI (by omega), h1]
def wdU (f : Nat → Nat) (s k i : Nat) : Bool := decide (f (s + i) = chW k i)
theorem c_isW {x : St} {t s k : Nat} {f : Nat → Nat} (hT : TX x t f) (hk : k < 7) (hs : s + lnW k ≤ t) (h6 : gi x 3 6 = nI s) : ∀ (r N i : Nat), i + r = lnW k → r < N → ff_RE_isWord_28 N x 3 k (nI i) = some (b32 (allU (wdU f s k) i r), x) := by
  have ht := hT.1
  have h7 := lnW_le k hk
  intro r
  induction r with
  | zero =>
    intro N i hi hN
    obtain ⟨N, rfl⟩ : ∃ K, N = K + 1 := ⟨N - 1, by omega⟩
    show bnd (ff_ST_length x k) _ = _
    rw [p_len x hk, bnd_some, if_pos (nI_le (by omega) (by omega))]; rfl
  | succ r ih =>
    intro N i hi hN
    obtain ⟨N, rfl⟩ : ∃ K, N = K + 1 := ⟨N - 1, by omega⟩
    obtain ⟨b1, b2⟩ := hT.2.2 (s + i) (by omega)
    obtain ⟨c1, c2⟩ := p_char x hk (i := i) (by omega)
    show bnd (ff_ST_length x k) _ = _
    rw [p_len x hk, bnd_some, if_neg (nI_ge (by omega) (by omega)), hT.2.1, h6, nI_add, if_neg (nI_ge (by omega) (by omega)), show rf 3 0 = 4 from rfl, show ln 4 = 250 from rfl, if_pos (ixb_nI (by omega) (by omega)), c1, bnd_some, ix_nI (by omega), b1, nI_1]
    show _ = some (b32 (wdU f s k i && allU (wdU f s k) (i + 1) r), x)
    by_cases z : f (s + i) = chW k i
    · rw [if_pos (by rw [z]), ih N (i + 1) (by omega) (by omega), show wdU f s k i = true from decide_eq_true z, Bool.true_and]
    · rw [if_neg (nI_eqn (by omega) (by omega) z), show wdU f s k i = false from decide_eq_false z, Bool.false_and]; rfl
/-- the token from s to e is the word k -/
def wdB (f : Nat → Nat) (s e k : Nat) : Bool := decide (e - s = lnW k) && allU (wdU f s k) 0 (lnW k)
theorem c_isWord {x : St} {t s e k : Nat} {f : Nat → Nat} (hT : TX x t f) (hk : k < 7) (hs : s ≤ e) (he : e ≤ t) (h6 : gi x 3 6 = nI s) (h2 : gi x 3 2 = nI e) (h5 : gi x 3 5 = 1) : ff_RE_isWord x 3 k = some (b32 (wdB f s e k), x) := by
  have ht := hT.1
  have h7 := lnW_le k hk
  unfold ff_RE_isWord wdB
  rw [h5, if_pos rfl, p_len x hk, bnd_some, h2, h6, pk_sub hs]
  by_cases z : e - s = lnW k
  · rw [if_pos (by rw [z]), decide_eq_true z, Bool.true_and]
    exact c_isW hT hk (by omega) h6 (lnW k) FU 0 (by omega) (by unfold FU; omega)
  · rw [if_neg (nI_eqn (by omega) (by omega) z), decide_eq_false z, Bool.false_and]; rfl
