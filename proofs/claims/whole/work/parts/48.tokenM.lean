theorem rn_all (P : Nat → Bool) (f : Nat → Nat) : ∀ n p i, p ≤ i → i < rn P f n p → P (f i) = true
  | 0, p, i, h1, h2 => by
    have : rn P f 0 p = p := rfl
    omega
  | n + 1, p, i, h1, h2 => by
    rw [rn_s] at h2
    cases q : P (f p) with
    | false => rw [q, if_neg (by decide)] at h2; omega
    | true =>
      rw [q, if_pos rfl] at h2
      by_cases z : i = p
      · rw [z]; exact q
      · exact rn_all P f n (p + 1) i (by omega) h2
theorem cdU_lt {f : Nat → Nat} {s : Nat} : ∀ k, (∀ i, i < k → 97 ≤ f (s + i) ∧ f (s + i) ≤ 122) → cdU f s k < 27 ^ k
  | 0, _ => by show 0 < 1; decide
  | k + 1, h => by
    have h1 := cdU_lt k (fun i hi => h i (by omega))
    obtain ⟨a, b⟩ := h k (by omega)
    have e : 27 ^ (k + 1) = 27 * 27 ^ k := by rw [Nat.pow_succ, Nat.mul_comm]
    show 27 * cdU f s k + f (s + k) - 96 < _
    omega
def mnN (c h : Nat) : Nat := if h = 0 then (if c = 2968 then 5 else if c = 50556 then 6 else if c = 5616614 then 1 else if c = 8254157 then 4 else if c = 8683934 then 2 else 10) else if c = 194934254 ∧ h = 18 then 0 else if c = 332763971 ∧ h = 7 then 3 else 10
theorem nI_eqi {a b : Nat} (ha : a < 2 ^ 31) (hb : b < 2 ^ 31) {α : Type} (u v : α) : (if nI a = nI b then u else v) = if a = b then u else v := by
  by_cases z : a = b
  · rw [if_pos z, if_pos (by rw [z])]
  · rw [if_neg z, if_neg (nI_eqn ha hb z)]
theorem m_meaning (x : St) {c h : Nat} (hc : c < 2 ^ 31) (hh : h < 2 ^ 31) : ff_MO_meaning x (nI c) (nI h) = some (nI (mnN c h), x) := by
  have e20 : ff_MO_meaning_20 x (nI c) (nI h) = some (nI (if c = 332763971 ∧ h = 7 then 3 else 10), x) := by
    unfold ff_MO_meaning_20
    rw [show (332763971 : Int32) = nI 332763971 from rfl, show (7 : Int32) = nI 7 from rfl, nI_eqi hc (by decide), nI_eqi hh (by decide)]
    by_cases a : c = 332763971
    · by_cases b : h = 7
      · rw [if_pos a, if_pos b, if_pos ⟨a, b⟩]; rfl
      · rw [if_pos a, if_neg b, if_neg (fun z => b z.2)]; rfl
    · rw [if_neg a, if_neg (fun z => a z.1)]; rfl
  unfold ff_MO_meaning mnN
  rw [e20]
  by_cases z : h = 0
  · rw [if_pos z, if_pos (show nI h ≤ 0 from nI_le (b := 0) (by omega) (by decide)), show (2968 : Int32) = nI 2968 from rfl, show (50556 : Int32) = nI 50556 from rfl, show (5616614 : Int32) = nI 5616614 from rfl, show (8254157 : Int32) = nI 8254157 from rfl, show (8683934 : Int32) = nI 8683934 from rfl, nI_eqi hc (by decide), nI_eqi hc (by decide), nI_eqi hc (by decide), nI_eqi hc (by decide), nI_eqi hc (by decide)]
    split
    · rfl
    · split
      · rfl
      · split
        · rfl
        · split
          · rfl
          · split <;> rfl
  · rw [if_neg z, if_neg (show ¬ nI h ≤ 0 from nI_ge (a := 0) (by omega) hh), show (194934254 : Int32) = nI 194934254 from rfl, show (18 : Int32) = nI 18 from rfl, nI_eqi hc (by decide), nI_eqi hh (by decide)]
    by_cases a : c = 194934254
    · by_cases b : h = 18
      · rw [if_pos a, if_pos b, if_pos ⟨a, b⟩]; rfl
      · rw [if_pos a, if_neg b, if_neg (show ¬ (c = 194934254 ∧ h = 18) from fun z => b z.2)]
    · rw [if_neg a, if_neg (show ¬ (c = 194934254 ∧ h = 18) from fun z => a z.1)]
/-- 9 end, 0 .. 6 a word that means something, 7 number, 8 stop, 10 other -/
def tkM (f : Nat → Nat) (t p : Nat) : Nat := if tkS f t p = t then 9 else if isLe (f (tkS f t p)) = true then mnN (cdU f (tkS f t p) (min (tkE f t p - tkS f t p) 6)) (thU f (tkS f t p) (tkE f t p - tkS f t p)) else if isFi (f (tkS f t p)) = true then (if 2 < tkE f t p - tkS f t p then 10 else 7) else if f (tkS f t p) = 59 then 8 else 10
