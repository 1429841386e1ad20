/-! a word's code: both sides know the same words -/
theorem allU_iff (c : Nat → Bool) : ∀ n i, allU c i n = true ↔ ∀ j, i ≤ j → j < i + n → c j = true
  | 0, i => ⟨fun _ j h1 h2 => by omega, fun _ => rfl⟩
  | n + 1, i => by
    have ih := allU_iff c n (i + 1)
    show (c i && allU c (i + 1) n) = true ↔ _
    rw [Bool.and_eq_true, ih]
    refine ⟨fun ⟨h1, h2⟩ j h3 h4 => ?_, fun h => ⟨h i (by omega) (by omega), fun j h1 h2 => h j (by omega) (by omega)⟩⟩
    by_cases z : j = i
    · rw [z]; exact h1
    · exact h2 j (by omega) (by omega)
theorem cdU_s (f : Nat → Nat) (s k : Nat) : cdU f s (k + 1) = 27 * cdU f s k + f (s + k) - 96 := rfl
theorem cdU_eq {f g : Nat → Nat} {s r : Nat} : ∀ n, (∀ i, i < n → 97 ≤ f (s + i) ∧ f (s + i) ≤ 122) → (∀ i, i < n → 97 ≤ g (r + i) ∧ g (r + i) ≤ 122) → (cdU f s n = cdU g r n ↔ ∀ i, i < n → f (s + i) = g (r + i))
  | 0, _, _ => ⟨fun _ i h => by omega, fun _ => rfl⟩
  | n + 1, hf, hg => by
    have ih := cdU_eq n (fun i hi => hf i (by omega)) (fun i hi => hg i (by omega))
    have a := hf n (by omega)
    have b := hg n (by omega)
    rw [cdU_s, cdU_s]
    constructor
    · intro h i hi
      have h1 : cdU f s n = cdU g r n := by omega
      have h2 : f (s + n) = g (r + n) := by omega
      by_cases z : i = n
      · rw [z]; exact h2
      · exact ih.mp h1 i (by omega)
    · intro h
      have h1 := ih.mpr (fun i hi => h i (by omega))
      have h2 := h n (by omega)
      omega
theorem cdU_ge {f : Nat → Nat} {s : Nat} : ∀ k, (∀ i, i < k + 1 → 97 ≤ f (s + i) ∧ f (s + i) ≤ 122) → 27 ^ k ≤ cdU f s (k + 1)
  | 0, h => by
    have := h 0 (by omega)
    show 1 ≤ 27 * 0 + f (s + 0) - 96
    omega
  | k + 1, h => by
    have h1 := cdU_ge k (fun i hi => h i (by omega))
    have := h (k + 1) (by omega)
    have e : 27 ^ (k + 1) = 27 * 27 ^ k := by rw [Nat.pow_succ, Nat.mul_comm]
    rw [cdU_s]
    omega
theorem chW_rg : ∀ k : Fin 7, ∀ i : Fin 7, i.val < lnW k.val → 97 ≤ chW k.val i.val ∧ chW k.val i.val ≤ 122 := by decide +kernel
def cdW (k : Nat) : Nat := cdU (chW k) 0 (lnW k)
theorem cdWs : cdW 0 = 5263224876 ∧ cdW 1 = 5616614 ∧ cdW 2 = 8683934 ∧ cdW 3 = 8984627224 ∧ cdW 4 = 8254157 ∧ cdW 5 = 2968 ∧ cdW 6 = 50556 := by decide +kernel
theorem wdB_iff {f : Nat → Nat} {s e k : Nat} (hk : k < 7) (hf : ∀ i, i < e - s → 97 ≤ f (s + i) ∧ f (s + i) ≤ 122) : wdB f s e k = true ↔ e - s = lnW k ∧ cdU f s (e - s) = cdW k := by
  have h7 := lnW_le k hk
  unfold wdB
  rw [Bool.and_eq_true, decide_eq_true_iff, allU_iff]
  constructor
  · rintro ⟨h1, h2⟩
    refine ⟨h1, ?_⟩
    rw [h1]
    refine (cdU_eq (lnW k) (fun i hi => hf i (by omega)) (fun i hi => by rw [Nat.zero_add]; exact chW_rg ⟨k, hk⟩ ⟨i, by omega⟩ hi)).mpr (fun i hi => ?_)
    rw [Nat.zero_add]
    exact of_decide_eq_true (h2 i (by omega) (by omega))
  · rintro ⟨h1, h2⟩
    refine ⟨h1, fun j h3 h4 => decide_eq_true ?_⟩
    rw [h1] at h2
    have := (cdU_eq (lnW k) (fun i hi => hf i (by omega)) (fun i hi => by rw [Nat.zero_add]; exact chW_rg ⟨k, hk⟩ ⟨i, by omega⟩ hi)).mp h2 j (by omega)
    rw [Nat.zero_add] at this
    exact this
def wdK (f : Nat → Nat) (s e : Nat) : Nat := if wdB f s e 0 = true then 0 else if wdB f s e 1 = true then 1 else if wdB f s e 2 = true then 2 else if wdB f s e 3 = true then 3 else if wdB f s e 4 = true then 4 else if wdB f s e 5 = true then 5 else if wdB f s e 6 = true then 6 else 10
theorem mn_wd {f : Nat → Nat} {s e : Nat} (hL : 0 < e - s) (hf : ∀ i, i < e - s → 97 ≤ f (s + i) ∧ f (s + i) ≤ 122) : mnN (cdU f s (min (e - s) 6)) (thU f s (e - s)) = wdK f s e := by
  obtain ⟨l0, l1, l2, l3, l4, l5, l6⟩ := lnWs
  obtain ⟨c0, c1, c2, c3, c4, c5, c6⟩ := cdWs
  have w0 := wdB_iff (k := 0) (by decide) hf
  have w1 := wdB_iff (k := 1) (by decide) hf
  have w2 := wdB_iff (k := 2) (by decide) hf
  have w3 := wdB_iff (k := 3) (by decide) hf
  have w4 := wdB_iff (k := 4) (by decide) hf
  have w5 := wdB_iff (k := 5) (by decide) hf
  have w6 := wdB_iff (k := 6) (by decide) hf
  rw [l0, c0] at w0
  rw [l1, c1] at w1
  rw [l2, c2] at w2
  rw [l3, c3] at w3
  rw [l4, c4] at w4
  rw [l5, c5] at w5
  rw [l6, c6] at w6
  unfold wdK
  simp only [w0, w1, w2, w3, w4, w5, w6]
  generalize e - s = L at *
  by_cases h6 : L ≤ 6
  · obtain ⟨K, rfl⟩ : ∃ K, L = K + 1 := ⟨L - 1, by omega⟩
    have a := cdU_ge K hf
    have b := cdU_lt (K + 1) hf
    rw [show min (K + 1) 6 = K + 1 by omega]
    unfold thU mnN
    rw [if_pos h6, if_pos rfl]
    generalize cdU f s (K + 1) = C at *
    clear w0 w1 w2 w3 w4 w5 w6 hf
    have : K = 0 ∨ K = 1 ∨ K = 2 ∨ K = 3 ∨ K = 4 ∨ K = 5 := by omega
    rcases this with rfl | rfl | rfl | rfl | rfl | rfl
    · rw [if_neg (by omega), if_neg (by omega), if_neg (by omega), if_neg (by omega), if_neg (by omega), if_neg (by omega), if_neg (by omega), if_neg (by omega), if_neg (by omega), if_neg (by omega), if_neg (by omega), if_neg (by omega)]
    · rw [if_neg (by omega), if_neg (by omega), if_neg (by omega), if_neg (by omega), if_neg (by omega), if_neg (by omega), if_neg (by omega), if_neg (by omega), if_neg (by omega), if_neg (by omega), if_neg (by omega), if_neg (by omega)]
    · by_cases q : C = 2968
      · rw [if_pos q, if_neg (by omega), if_neg (by omega), if_neg (by omega), if_neg (by omega), if_neg (by omega), if_pos (by omega)]
      · rw [if_neg (by omega), if_neg (by omega), if_neg (by omega), if_neg (by omega), if_neg (by omega), if_neg (by omega), if_neg (by omega), if_neg (by omega), if_neg (by omega), if_neg (by omega), if_neg (by omega), if_neg (by omega)]
    · by_cases q : C = 50556
      · rw [if_neg (by omega), if_pos q, if_neg (by omega), if_neg (by omega), if_neg (by omega), if_neg (by omega), if_neg (by omega), if_neg (by omega), if_pos (by omega)]
      · rw [if_neg (by omega), if_neg (by omega), if_neg (by omega), if_neg (by omega), if_neg (by omega), if_neg (by omega), if_neg (by omega), if_neg (by omega), if_neg (by omega), if_neg (by omega), if_neg (by omega), if_neg (by omega)]
    · by_cases q : C = 5616614
      · rw [if_neg (by omega), if_neg (by omega), if_pos q, if_neg (by omega), if_pos (by omega)]
      · by_cases q2 : C = 8254157
        · rw [if_neg (by omega), if_neg (by omega), if_neg (by omega), if_pos q2, if_neg (by omega), if_neg (by omega), if_neg (by omega), if_neg (by omega), if_pos (by omega)]
        · by_cases q3 : C = 8683934
          · rw [if_neg (by omega), if_neg (by omega), if_neg (by omega), if_neg (by omega), if_pos q3, if_neg (by omega), if_neg (by omega), if_pos (by omega)]
          · rw [if_neg (by omega), if_neg (by omega), if_neg (by omega), if_neg (by omega), if_neg (by omega), if_neg (by omega), if_neg (by omega), if_neg (by omega), if_neg (by omega), if_neg (by omega), if_neg (by omega), if_neg (by omega)]
    · rw [if_neg (by omega), if_neg (by omega), if_neg (by omega), if_neg (by omega), if_neg (by omega), if_neg (by omega), if_neg (by omega), if_neg (by omega), if_neg (by omega), if_neg (by omega), if_neg (by omega), if_neg (by omega)]
  · by_cases h7 : L = 7
    · subst h7
      have a := hf 6 (by omega)
      rw [show min 7 6 = 6 by omega]
      have e7 := cdU_s f s 6
      have eT : thU f s 7 = f (s + 6) - 96 := by
        unfold thU
        rw [if_neg (by omega), if_pos rfl]
      unfold mnN
      rw [eT, if_neg (show ¬ f (s + 6) - 96 = 0 by omega), e7]
      generalize cdU f s 6 = C at *
      generalize f (s + 6) = D at *
      clear w0 w1 w2 w3 w4 w5 w6 e7 eT hf
      by_cases q : C = 194934254 ∧ D - 96 = 18
      · rw [if_pos q, if_pos (by omega)]
      · by_cases q2 : C = 332763971 ∧ D - 96 = 7
        · rw [if_neg (by omega), if_pos q2, if_neg (by omega), if_neg (by omega), if_neg (by omega), if_pos (by omega)]
        · rw [if_neg (by omega), if_neg (by omega), if_neg (by omega), if_neg (by omega), if_neg (by omega), if_neg (by omega), if_neg (by omega), if_neg (by omega), if_neg (by omega)]
    · have eT : thU f s L = 99 := by
        unfold thU
        rw [if_neg h6, if_neg h7]
      unfold mnN
      rw [eT, if_neg (show ¬ 99 = 0 by decide), if_neg (by omega), if_neg (by omega), if_neg (by omega), if_neg (by omega), if_neg (by omega), if_neg (by omega), if_neg (by omega), if_neg (by omega), if_neg (by omega)]
theorem tkC_1 {f : Nat → Nat} {t p : Nat} (h : tkC f t p = 1) : ¬ tkS f t p = t ∧ isLe (f (tkS f t p)) = true := by
  have hq : ¬ tkS f t p = t := fun e => by unfold tkC at h; rw [if_pos e] at h; omega
  refine ⟨hq, ?_⟩
  cases q : isLe (f (tkS f t p)) with
  | true => rfl
  | false =>
    unfold tkC at h
    rw [if_neg hq, q, if_neg (by decide)] at h
    split at h
    · split at h <;> omega
    · split at h <;> omega
theorem tkM_w {f : Nat → Nat} {t p : Nat} (hp : p ≤ t) (h : tkC f t p = 1) : tkM f t p = wdK f (tkS f t p) (tkE f t p) := by
  obtain ⟨h1, h2⟩ := tkC_1 h
  have hs := tkS_le (f := f) hp
  have eE : tkE f t p = rn isLe f (t - tkS f t p) (tkS f t p) := by
    unfold tkE
    rw [if_neg h1, h2, if_pos rfl]
  have hE : tkS f t p < tkE f t p := by
    rw [eE, show t - tkS f t p = (t - tkS f t p - 1) + 1 by omega, rn_s, h2, if_pos rfl]
    have := rn_ge isLe f (t - tkS f t p - 1) (tkS f t p + 1)
    omega
  unfold tkM
  rw [if_neg h1, h2, if_pos rfl]
  refine mn_wd (by omega) (fun i hi => le_rg (rn_all isLe f (t - tkS f t p) (tkS f t p) _ (by omega) (by rw [← eE]; omega)))
theorem tkE_lt {f : Nat → Nat} {t p : Nat} (hp : p ≤ t) (h : ¬ tkC f t p = 0) : p < tkE f t p := by
  have hs := tkS_le (f := f) hp
  have hq : ¬ tkS f t p = t := fun e => h (by unfold tkC; rw [if_pos e])
  unfold tkE
  rw [if_neg hq]
  cases q : isLe (f (tkS f t p)) with
  | true =>
    rw [if_pos rfl, show t - tkS f t p = (t - tkS f t p - 1) + 1 by omega, rn_s, q, if_pos rfl]
    have := rn_ge isLe f (t - tkS f t p - 1) (tkS f t p + 1)
    omega
  | false =>
    rw [if_neg (by decide)]
    cases q2 : isFi (f (tkS f t p)) with
    | true =>
      rw [if_pos rfl, show t - tkS f t p = (t - tkS f t p - 1) + 1 by omega, rn_s, q2, if_pos rfl]
      have := rn_ge isFi f (t - tkS f t p - 1) (tkS f t p + 1)
      omega
    | false =>
      rw [if_neg (by decide)]
      omega
theorem tkM_n {f : Nat → Nat} {t p : Nat} (h : ¬ tkC f t p = 1) : tkM f t p = (if tkC f t p = 0 then 9 else if tkC f t p = 2 then 7 else if tkC f t p = 3 then 8 else 10) := by
  unfold tkM tkC at *
  by_cases q : tkS f t p = t
  · rw [if_pos q, if_pos q]; rfl
  · rw [if_neg q] at h
    rw [if_neg q, if_neg q]
    cases hl : isLe (f (tkS f t p)) with
    | true => rw [hl, if_pos rfl] at h; exact absurd rfl h
    | false =>
      rw [if_neg (show ¬ false = true by decide), if_neg (show ¬ false = true by decide)]
      cases hf : isFi (f (tkS f t p)) with
      | true =>
        rw [if_pos (show true = true from rfl), if_pos (show true = true from rfl)]
        split <;> rfl
      | false =>
        rw [if_neg (show ¬ false = true by decide), if_neg (show ¬ false = true by decide)]
        split <;> rfl
theorem wdK_or (f : Nat → Nat) (s e : Nat) : wdK f s e ≤ 6 ∨ wdK f s e = 10 := by
  unfold wdK
  repeat' split
  all_goals omega
/-- which sorts are which -/
theorem tkM_7 {f : Nat → Nat} {t p : Nat} (hp : p ≤ t) : tkM f t p = 7 ↔ tkC f t p = 2 := by
  by_cases h : tkC f t p = 1
  · have := wdK_or f (tkS f t p) (tkE f t p)
    rw [tkM_w hp h, h]
    omega
  · rw [tkM_n h]
    repeat' split
    all_goals omega
theorem tkM_8 {f : Nat → Nat} {t p : Nat} (hp : p ≤ t) : tkM f t p = 8 ↔ tkC f t p = 3 := by
  by_cases h : tkC f t p = 1
  · have := wdK_or f (tkS f t p) (tkE f t p)
    rw [tkM_w hp h, h]
    omega
  · rw [tkM_n h]
    repeat' split
    all_goals omega
theorem tkM_9 {f : Nat → Nat} {t p : Nat} (hp : p ≤ t) : tkM f t p = 9 ↔ tkC f t p = 0 := by
  by_cases h : tkC f t p = 1
  · have := wdK_or f (tkS f t p) (tkE f t p)
    rw [tkM_w hp h, h]
    omega
  · rw [tkM_n h]
    repeat' split
    all_goals omega
theorem tkM_le (f : Nat → Nat) (t p : Nat) (hp : p ≤ t) : tkM f t p ≤ 10 := by
  by_cases h : tkC f t p = 1
  · have := wdK_or f (tkS f t p) (tkE f t p)
    rw [tkM_w hp h]
    omega
  · rw [tkM_n h]
    repeat' split
    all_goals omega
theorem tkC_le (f : Nat → Nat) (t p : Nat) : tkC f t p ≤ 4 := by
  unfold tkC
  repeat' split
  all_goals omega
