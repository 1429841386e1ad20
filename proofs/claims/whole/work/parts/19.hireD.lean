theorem c_isIn (x : St) {m z : Nat} (hm : m < 7) (hz : z < 2 ^ 31) : ff_HI_isIn x (nI m) (nI z) = some (b32 (bN z m), x) := by
  unfold ff_HI_isIn b32
  by_cases q : bN z m = true
  · rw [if_pos ((bt_1 hz hm).mpr q), if_pos q]
  · rw [if_neg (fun y => q ((bt_1 hz hm).mp y)), if_neg q]
theorem c_priceL {x : St} {z : Nat} {g : Nat → Int32} (hI : InvG g) (hH : HV x g) (hz : z < 2 ^ 31) : ∀ (n N m v : Nat), m + n = ix (g 0) → n < N → ff_HI_priceOf_4 N x 5 (nI z) (nI v) (nI m) = some (nI (prU g z m n v), x) := by
  have hM2 := hI.1.1.2
  obtain ⟨h1, -, h3, -⟩ := hH
  intro n
  induction n with
  | zero =>
    intro N m v hm hN
    obtain ⟨N, rfl⟩ : ∃ K, N = K + 1 := ⟨N - 1, by omega⟩
    show (if gi x 5 3 ≤ nI m then _ else _) = _
    rw [h1, if_pos (nI_le (by omega) (by omega))]; rfl
  | succ n ih =>
    intro N m v hm hN
    obtain ⟨N, rfl⟩ : ∃ K, N = K + 1 := ⟨N - 1, by omega⟩
    have k3 := (hI.2.1 m (by omega)).2.2.2
    show (if gi x 5 3 ≤ nI m then _ else _) = some (nI (prU g z (m + 1) n (if bN z m = true then v + ix (g (9 + 3 * m)) else v)), x)
    rw [h1, if_neg (nI_ge (by omega) (by omega)), c_isIn x (by omega) hz, bnd_some, nI_1]
    cases q : bN z m with
    | false =>
      rw [show b32 false = 0 from rfl, if_pos rfl, ih N (m + 1) v (by omega) (by omega)]; rfl
    | true =>
      rw [show b32 true = 1 from rfl, if_neg (by decide), show rf 5 2 = 8 from rfl, show ln 8 = 6 from rfl, if_pos (ixb_nI (by omega) (by omega)), ix_nI (by omega), h3 m (by omega), li_eq, nI_add, ih N (m + 1) _ (by omega) (by omega)]; rfl
theorem c_priceOf {x : St} {z : Nat} {g : Nat → Int32} (hI : InvG g) (hH : HV x g) (hz : z < 2 ^ 31) : ff_HI_priceOf x 5 (nI z) = some (nI (prF g z), x) := by
  have hM2 := hI.1.1.2
  exact c_priceL hI hH hz (ix (g 0)) FU 0 0 (by omega) (by unfold FU; omega)
theorem c_who3 {x : St} {j z a : Nat} {g : Nat → Int32} (hI : InvG g) (hH : HV x g) (hz : z < 2 ^ 31) (hj : j < 6) (hn : ¬ tiF g j = -1) (ha : a < ix (g 0)) {rest : Int32} (K : St → Nat → Int32 → Int32 → Int32 → Option (Int32 × St)) (hK : K x 5 (nI j) (nI z) (nI (a + 1)) = some (rest, x)) : ∀ (n N b : Nat), b + n = ix (g 0) → n < N → a ≤ b → ff_HI_boilersFor_72 K N x 5 (nI j) (nI z) (nI a) (nI b) = some (who3 g j z a rest b n, x) := by
  have hM2 := hI.1.1.2
  obtain ⟨h1, -, -, h4⟩ := hH
  obtain ⟨F, f1, f2⟩ := h4 j hj hn
  intro n
  induction n with
  | zero =>
    intro N b hb hN hab
    obtain ⟨N, rfl⟩ : ∃ K, N = K + 1 := ⟨N - 1, by omega⟩
    show (if gi x 5 3 ≤ nI b then _ else _) = _
    rw [h1, if_pos (nI_le (by omega) (by omega)), nI_1, hK]; rfl
  | succ n ih =>
    intro N b hb hN hab
    obtain ⟨N, rfl⟩ : ∃ K, N = K + 1 := ⟨N - 1, by omega⟩
    have ih2 := ih N (b + 1) (by omega) (by omega) (by omega)
    show (if gi x 5 3 ≤ nI b then _ else _) = some (if (bN z a && (bN z b && fB g j a b)) = true then nI (10 * a + b) else who3 g j z a rest (b + 1) n, x)
    rw [h1, if_neg (nI_ge (by omega) (by omega)), c_isIn x (by omega) hz, bnd_some, nI_1]
    cases q : bN z a with
    | false =>
      rw [show b32 false = 0 from rfl, if_pos rfl, ih2]; rfl
    | true =>
      rw [show b32 true = 1 from rfl, if_neg (by decide), c_isIn x (by omega) hz, bnd_some]
      cases q2 : bN z b with
      | false =>
        rw [show b32 false = 0 from rfl, if_pos rfl, ih2]; rfl
      | true =>
        unfold ff_HI_pairBit
        rw [show b32 true = 1 from rfl, if_neg (by decide), show rf 5 1 = 7 from rfl, show ln 7 = 6 from rfl, if_pos (ixb_nI (by omega) (by omega)), ix_nI (by omega), bnd_some, pairN (by omega) (by omega), f1]
        have f3 := f2 a b hab (by omega)
        cases q3 : fB g j a b with
        | false =>
          rw [if_pos ((cmp0 _).mpr ((fb_bitL (by omega)).mpr (f3.trans q3))), ih2]; rfl
        | true =>
          rw [if_neg (fun y => by
            have := (fb_bitL (by omega)).mp ((cmp0 _).mp y)
            rw [f3, q3] at this
            cases this)]
          unfold ff_HI_boilersFor_116
          rw [show (10 * nI a + nI b : Int32) = nI (10 * a + b) from by rw [show (10 : Int32) = nI 10 from rfl, pk_mul, nI_add]]; rfl
theorem c_who2 {x : St} {j z : Nat} {g : Nat → Int32} (hI : InvG g) (hH : HV x g) (hz : z < 2 ^ 31) (hj : j < 6) (hn : ¬ tiF g j = -1) : ∀ (n N a : Nat), a + n = ix (g 0) → n < N → ff_HI_boilersFor_59 N x 5 (nI j) (nI z) (nI a) = some (who2 g j z a n, x) := by
  have hM2 := hI.1.1.2
  intro n
  induction n with
  | zero =>
    intro N a ha hN
    obtain ⟨N, rfl⟩ : ∃ K, N = K + 1 := ⟨N - 1, by omega⟩
    show (if gi x 5 3 ≤ nI a then _ else _) = _
    rw [hH.1, if_pos (nI_le (by omega) (by omega))]; rfl
  | succ n ih =>
    intro N a ha hN
    obtain ⟨N, rfl⟩ : ∃ K, N = K + 1 := ⟨N - 1, by omega⟩
    show (if gi x 5 3 ≤ nI a then _ else _) = some (who3 g j z a (who2 g j z (a + 1) n) (a + 1) (ix (g 0) - (a + 1)), x)
    rw [hH.1, if_neg (nI_ge (by omega) (by omega)), nI_1]
    exact c_who3 hI hH hz hj hn (by omega) (ff_HI_boilersFor_59 N) (ih N (a + 1) (by omega) (by omega)) (ix (g 0) - (a + 1)) FU (a + 1) (by omega) (by unfold FU; omega) (by omega)
theorem c_who1 {x : St} {j z : Nat} {g : Nat → Int32} (hI : InvG g) (hH : HV x g) (hz : z < 2 ^ 31) (hj : j < 6) (hn : ¬ tiF g j = -1) : ∀ (n N a : Nat), a + n = ix (g 0) → n < N → ff_HI_boilersFor_13 N x 5 (nI j) (nI z) (nI a) = some (who1 g j z a n, x) := by
  have hM2 := hI.1.1.2
  obtain ⟨F, f1, f2⟩ := hH.2.2.2 j hj hn
  intro n
  induction n with
  | zero =>
    intro N a ha hN
    obtain ⟨N, rfl⟩ : ∃ K, N = K + 1 := ⟨N - 1, by omega⟩
    show (if gi x 5 3 ≤ nI a then _ else _) = _
    rw [hH.1, if_pos (nI_le (by omega) (by omega))]
    exact c_who2 hI hH hz hj hn (ix (g 0)) FU 0 (by omega) (by unfold FU; omega)
  | succ n ih =>
    intro N a ha hN
    obtain ⟨N, rfl⟩ : ∃ K, N = K + 1 := ⟨N - 1, by omega⟩
    have ih2 := ih N (a + 1) (by omega) (by omega)
    show (if gi x 5 3 ≤ nI a then _ else _) = some (if (bN z a && fB g j a a) = true then nI (60 + a) else who1 g j z (a + 1) n, x)
    rw [hH.1, if_neg (nI_ge (by omega) (by omega)), c_isIn x (by omega) hz, bnd_some, nI_1]
    cases q : bN z a with
    | false =>
      rw [show b32 false = 0 from rfl, if_pos rfl, ih2]; rfl
    | true =>
      unfold ff_HI_pairBit
      rw [show b32 true = 1 from rfl, if_neg (by decide), show rf 5 1 = 7 from rfl, show ln 7 = 6 from rfl, if_pos (ixb_nI (by omega) (by omega)), ix_nI (by omega), bnd_some, pairN (by omega) (by omega), f1]
      have f3 := f2 a a (Nat.le_refl a) (by omega)
      cases q3 : fB g j a a with
      | false =>
        rw [if_pos ((cmp0 _).mpr ((fb_bitL (by omega)).mpr (f3.trans q3))), ih2]; rfl
      | true =>
        rw [if_neg (fun y => by
          have := (fb_bitL (by omega)).mp ((cmp0 _).mp y)
          rw [f3, q3] at this
          cases this), show (60 + nI a : Int32) = nI (60 + a) from nI_add 60 a]; rfl
theorem c_boilersFor {x : St} {j z : Nat} {g : Nat → Int32} (hI : InvG g) (hH : HV x g) (hz : z < 2 ^ 31) (hj : j < 6) (hn : ¬ tiF g j = -1) : ff_HI_boilersFor x 5 (nI j) (nI z) = some (whoF g j z, x) := by
  have hM2 := hI.1.1.2
  unfold ff_HI_boilersFor
  rw [p_within, bnd_some, show wn (nI j) 0 5 = 1 from wn_yes (a := 0) (b := 5) (by omega) (by omega) (by decide), if_neg (by decide)]
  exact c_who1 hI hH hz hj hn (ix (g 0)) FU 0 (by omega) (by unfold FU; omega)
theorem c_enL {x : St} {z : Nat} {g : Nat → Int32} (hI : InvG g) (hH : HV x g) (hz : z < 2 ^ 31) : ∀ (n N j : Nat), j + n = 6 → n < N → ff_HI_isEnough_2 N x 5 (nI z) (nI j) = some (b32 (allU (fun j => decide (tiF g j = -1 ∨ ¬ whoF g j z = -1)) j n), x) := by
  intro n
  induction n with
  | zero =>
    intro N j hj hN
    obtain ⟨N, rfl⟩ : ∃ K, N = K + 1 := ⟨N - 1, by omega⟩
    show (if (6 : Int32) ≤ nI j then _ else _) = _
    rw [if_pos (show (6 : Int32) ≤ nI j from nI_le (a := 6) (by omega) (by omega))]; rfl
  | succ n ih =>
    intro N j hj hN
    obtain ⟨N, rfl⟩ : ∃ K, N = K + 1 := ⟨N - 1, by omega⟩
    have ih2 := ih N (j + 1) (by omega) (by omega)
    show (if (6 : Int32) ≤ nI j then _ else _) = some (b32 (decide (tiF g j = -1 ∨ ¬ whoF g j z = -1) && allU (fun j => decide (tiF g j = -1 ∨ ¬ whoF g j z = -1)) (j + 1) n), x)
    rw [if_neg (show ¬ (6 : Int32) ≤ nI j from nI_ge (b := 6) (by omega) (by decide)), show rf 5 0 = 6 from rfl, show ln 6 = 6 from rfl, if_pos (ixb_nI (by omega) (by omega)), ix_nI (by omega), hH.2.1 j (by omega), nI_1]
    by_cases c : tiF g j = -1
    · rw [if_pos c, ih2]
      simp [c]
    · rw [if_neg c, c_boilersFor hI hH hz (by omega) c, bnd_some]
      by_cases c2 : whoF g j z = -1
      · rw [if_pos c2]
        simp [c, c2, b32]
      · rw [if_neg c2, ih2]
        simp [c2]
theorem c_isEnough {x : St} {z : Nat} {g : Nat → Int32} (hI : InvG g) (hH : HV x g) (hz : z < 2 ^ 31) : ff_HI_isEnough x 5 (nI z) = some (b32 (enB g z), x) :=
  c_enL hI hH hz 6 FU 0 (by omega) (by unfold FU; omega)
theorem c_chL {x : St} {g : Nat → Int32} {but : Int32} (hI : InvG g) (hH : HV x g) (hb : but = -1 ∨ (but = nI (ix but) ∧ ix but < 6)) : ∀ (n N z : Nat) (best bp : Int32), z + n = 2 ^ ix (g 0) → n < N → (best = -1 ∨ ∃ k, k < 64 ∧ best = nI k ∧ bp = nI (prF g k)) → ff_HI_cheapest_7 N x 5 but best bp (nI z) = some (chU g but z n best, x) := by
  have hM2 := hI.1.1.2
  have h64 : 2 ^ ix (g 0) ≤ 2 ^ 6 := Nat.pow_le_pow_right (by decide) hM2
  intro n
  induction n with
  | zero =>
    intro N z best bp hz hN hB
    obtain ⟨N, rfl⟩ : ∃ K, N = K + 1 := ⟨N - 1, by omega⟩
    show (if (1 : Int32) <<< (gi x 5 3 &&& 31) ≤ nI z then _ else _) = _
    rw [hH.1, sh_nI (by omega), if_pos (nI_le (by omega) (by omega))]; rfl
  | succ n ih =>
    intro N z best bp hz hN hB
    obtain ⟨N, rfl⟩ : ∃ K, N = K + 1 := ⟨N - 1, by omega⟩
    have hpl := prF_le hI z
    have keep : okS g but best z = false → ff_HI_cheapest_7 N x 5 but best bp (nI z + 1) = some (chU g but z (n + 1) best, x) := by
      intro h
      rw [nI_1, ih N (z + 1) best bp (by omega) (by omega) hB]
      show _ = some (chU g but (z + 1) n (if okS g but best z = true then nI z else best), x)
      rw [h]; rfl
    have take : okS g but best z = true → ff_HI_cheapest_7 N x 5 but (nI z) (nI (prF g z)) (nI z + 1) = some (chU g but z (n + 1) best, x) := by
      intro h
      rw [nI_1, ih N (z + 1) (nI z) (nI (prF g z)) (by omega) (by omega) (Or.inr ⟨z, by omega, rfl, rfl⟩)]
      show _ = some (chU g but (z + 1) n (if okS g but best z = true then nI z else best), x)
      rw [h]; rfl
    have k54 : decide (but = -1 ∨ bN z (ix but) = false) = true → decide (best = -1 ∨ prF g z < prF g (ix best)) = true → ff_HI_cheapest_54 (ff_HI_cheapest_7 N) x 5 but best bp (nI z) (nI (prF g z)) = some (chU g but z (n + 1) best, x) := by
      intro a1 a2
      unfold ff_HI_cheapest_54
      rw [c_isEnough hI hH (by omega), bnd_some]
      cases q : enB g z with
      | false =>
        rw [show b32 false = 0 from rfl, if_pos rfl]
        exact keep (by unfold okS; rw [q]; simp)
      | true =>
        rw [show b32 true = 1 from rfl, if_neg (by decide)]
        exact take (by unfold okS; rw [q, a1, a2]; rfl)
    have k35 : decide (but = -1 ∨ bN z (ix but) = false) = true → ff_HI_cheapest_35 (ff_HI_cheapest_7 N) x 5 but best bp (nI z) = some (chU g but z (n + 1) best, x) := by
      intro a1
      unfold ff_HI_cheapest_35
      rw [c_priceOf hI hH (by omega), bnd_some]
      rcases hB with rfl | ⟨k, k1, rfl, rfl⟩
      · rw [if_pos rfl]
        exact k54 a1 (by simp)
      · have hpk := prF_le hI k
        rw [if_neg (nI_ne_m1 (by omega))]
        by_cases c : prF g k ≤ prF g z
        · rw [if_pos (nI_le c (by omega))]
          refine keep ?_
          unfold okS
          have : decide (nI k = -1 ∨ prF g z < prF g (ix (nI k))) = false := by
            rw [decide_eq_false_iff_not, ix_nI (by omega)]
            rintro (y | y)
            · exact nI_ne_m1 (by omega) y
            · omega
          rw [this]; simp
        · rw [if_neg (nI_ge (by omega) (by omega))]
          refine k54 a1 ?_
          rw [decide_eq_true_eq, ix_nI (by omega)]
          exact Or.inr (by omega)
    show (if (1 : Int32) <<< (gi x 5 3 &&& 31) ≤ nI z then _ else _) = _
    rw [hH.1, sh_nI (by omega), if_neg (nI_ge (by omega) (by omega))]
    rcases hb with rfl | ⟨b1, b2⟩
    · rw [if_pos rfl]
      exact k35 (by simp)
    · have bn : ¬ but = -1 := by rw [b1]; exact nI_ne_m1 (by omega)
      rw [if_neg bn]
      have e : ff_HI_isIn x but (nI z) = some (b32 (bN z (ix but)), x) := by
        have := c_isIn x (m := ix but) (z := z) (by omega) (by omega)
        rw [← b1] at this
        exact this
      rw [e, bnd_some]
      cases q : bN z (ix but) with
      | false =>
        rw [show b32 false = 0 from rfl, if_pos rfl]
        exact k35 (by simp [q])
      | true =>
        rw [show b32 true = 1 from rfl, if_neg (by decide)]
        exact keep (by unfold okS; simp [q, bn])
theorem c_cheapest {x : St} {g : Nat → Int32} {but : Int32} (hI : InvG g) (hH : HV x g) (hb : but = -1 ∨ (but = nI (ix but) ∧ ix but < 6)) : ff_HI_cheapest x 5 but = some (chF g but, x) := by
  have hM2 := hI.1.1.2
  have h64 : 2 ^ ix (g 0) ≤ 2 ^ 6 := Nat.pow_le_pow_right (by decide) hM2
  exact c_chL hI hH hb (2 ^ ix (g 0)) FU 0 (-1) 0 (by omega) (by unfold FU; omega) (Or.inl rfl)
theorem chU_ok {g : Nat → Int32} {but : Int32} : ∀ (n z : Nat) (best : Int32), z + n ≤ 64 → (best = -1 ∨ ∃ k, k < 64 ∧ best = nI k) → chU g but z n best = -1 ∨ ∃ k, k < 64 ∧ chU g but z n best = nI k
  | 0, _, _, _, h => h
  | n + 1, z, best, hz, h => by
    show chU g but (z + 1) n _ = -1 ∨ ∃ k, k < 64 ∧ chU g but (z + 1) n _ = nI k
    refine chU_ok n (z + 1) _ (by omega) ?_
    by_cases c : okS g but best z = true
    · rw [if_pos c]; exact Or.inr ⟨z, by omega, rfl⟩
    · rw [if_neg c]; exact h
theorem chF_ok {g : Nat → Int32} (hI : InvG g) (but : Int32) : chF g but = -1 ∨ ∃ k, k < 64 ∧ chF g but = nI k := by
  have hM2 := hI.1.1.2
  have h64 : 2 ^ ix (g 0) ≤ 2 ^ 6 := Nat.pow_le_pow_right (by decide) hM2
  exact chU_ok _ _ _ (by omega) (Or.inl rfl)
