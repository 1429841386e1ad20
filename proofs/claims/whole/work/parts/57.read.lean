/-! reading, whole -/
def fin_ (c0 m0 c m : St) : Prop := (gi c 3 3 = -1 ∧ gi m 100 12 = -1 ∧ Pl c m 76 945 ∧ frC c0 c ∧ frM m0 m) ∨ RF c0 m0 c m
theorem rd_loop {t : Nat} {f : Nat → Nat} {c0 m0 : St} : ∀ (n p N N' i : Nat) (c m : St), t - p ≤ n → n + 2 ≤ N → n + 2 ≤ N' → i ≤ p → JJ t f c0 m0 c m p → ∃ k c' m', ff_RE_readItems_21 N c 3 (nI i) (nI i) = some (nI k, c') ∧ ff_MO_read_43 N' m 100 (nI i) = ff_MO_read_70 m' 100 (nI k) ∧ fin_ c0 m0 c' m' := by
  intro n
  induction n with
  | zero =>
    intro p N N' i c m hn hN hN' hi h
    obtain ⟨N, rfl⟩ : ∃ K, N = K + 1 := ⟨N - 1, by omega⟩
    obtain ⟨N', rfl⟩ : ∃ K, N' = K + 1 := ⟨N' - 1, by omega⟩
    obtain ⟨hp, hC, hM, hP, fC, fM⟩ := id h
    have ht := hC.1.1
    have hE : tkC f t p = 0 := by
      by_cases z : tkC f t p = 0
      · exact z
      · have := tkE_lt hp z
        have := (tkE_le (f := f) hp).2
        omega
    obtain ⟨y, y1, y2, y3, y4, y5, y6⟩ := c_tk hC hp
    have oR : onlyT m m := ⟨fun _ _ _ => rfl, fun _ _ => rfl⟩
    refine ⟨i, y, m, ?_, ?_, Or.inl ⟨y3.2.2, hM.2.2.2.2.2, Pl_CT hP y2 oR, frC_C fC y2, fM⟩⟩
    · show (if gi c 3 1 < nI i then _ else _) = _
      rw [hC.1.2.1, if_neg (nI_nlt (by omega) (by omega)), hC.2.2, if_pos rfl, y1, bnd_some, y5, if_pos (by rw [hE]; rfl)]
    · show (if gi m 100 12 = -1 then _ else _) = _
      rw [hM.2.2.2.2.2, if_pos rfl, hM.2.2.2.1, if_pos (by rw [(tkM_9 hp).mpr hE]; rfl)]
  | succ n ih =>
    intro p N N' i c m hn hN hN' hi h
    obtain ⟨N, rfl⟩ : ∃ K, N = K + 1 := ⟨N - 1, by omega⟩
    obtain ⟨N', rfl⟩ : ∃ K, N' = K + 1 := ⟨N' - 1, by omega⟩
    obtain ⟨hp, hC, hM, hP, fC, fM⟩ := id h
    have ht := hC.1.1
    have hcl := tkC_le f t p
    have hml := tkM_le f t p hp
    obtain ⟨y, y1, y2, y3, y4, y5, y6⟩ := c_tk hC hp
    have oR : onlyT m m := ⟨fun _ _ _ => rfl, fun _ _ => rfl⟩
    by_cases hE : tkC f t p = 0
    · refine ⟨i, y, m, ?_, ?_, Or.inl ⟨y3.2.2, hM.2.2.2.2.2, Pl_CT hP y2 oR, frC_C fC y2, fM⟩⟩
      · show (if gi c 3 1 < nI i then _ else _) = _
        rw [hC.1.2.1, if_neg (nI_nlt (by omega) (by omega)), hC.2.2, if_pos rfl, y1, bnd_some, y5, if_pos (by rw [hE]; rfl)]
      · show (if gi m 100 12 = -1 then _ else _) = _
        rw [hM.2.2.2.2.2, if_pos rfl, hM.2.2.2.1, if_pos (by rw [(tkM_9 hp).mpr hE]; rfl)]
    · obtain ⟨c', m', e1, e2, e3⟩ := item h hE y2 y3 y4
      have s1 : ff_RE_readItems_21 (N + 1) c 3 (nI i) (nI i) = ff_RE_readItems_21 N c' 3 (nI (i + 1)) (nI (i + 1)) := by
        rw [c_st21 (w := WW f t p) (by rw [hC.1.2.1]; exact nI_nlt (by omega) (by omega)) hC.2.2 y1 (by rw [y5]; exact nI_eqn (b := 0) (by omega) (by decide) hE) (fun k hk => c_W y3.1 hp hk y4 y3.2.1 y5), e1, bnd_some, nI_1]
      have s2 : ff_MO_read_43 (N' + 1) m 100 (nI i) = ff_MO_read_43 N' m' 100 (nI (i + 1)) := by
        show (if gi m 100 12 = -1 then _ else _) = _
        rw [hM.2.2.2.2.2, if_pos rfl, hM.2.2.2.1, if_neg (show ¬ nI (tkM f t p) = 9 from nI_eqn (b := 9) (by omega) (by decide) (fun z => hE ((tkM_9 hp).mp z))), e2, bnd_some, nI_1]
      rw [s1, s2]
      rcases e3 with ⟨p', p1, p2⟩ | e3
      · exact ih p' N N' (i + 1) c' m' (by omega) (by omega) (by omega) (by omega) p2
      · obtain ⟨N, rfl⟩ : ∃ K, N = K + 1 := ⟨N - 1, by omega⟩
        obtain ⟨N', rfl⟩ : ∃ K, N' = K + 1 := ⟨N' - 1, by omega⟩
        obtain ⟨q, q1, q2, q3, q4, q5⟩ := id e3
        refine ⟨i + 1, c', m', ?_, ?_, Or.inr e3⟩
        · show (if gi c' 3 1 < nI (i + 1) then _ else _) = _
          rw [q2, if_neg (nI_ne_m1 (by omega))]
          split <;> rfl
        · show (if gi m' 100 12 = -1 then _ else _) = _
          rw [q3, if_neg (nI_ne_m1 (by omega))]
theorem and255 (v : Int32) : (v &&& 255) = nI (ix (v &&& 255)) ∧ ix (v &&& 255) ≤ 255 := by
  have h : ∃ n : Nat, n ≤ 255 ∧ v &&& 255 = nI n := by
    refine ⟨(v.toBitVec &&& 255#32).toNat, ?_, ?_⟩
    · rw [BitVec.toNat_and]
      exact Nat.and_le_right
    · apply Int32.toBitVec_inj.mp
      show v.toBitVec &&& 255#32 = (nI (v.toBitVec &&& 255#32).toNat).toBitVec
      show v.toBitVec &&& 255#32 = BitVec.ofNat 32 (v.toBitVec &&& 255#32).toNat
      rw [BitVec.ofNat_toNat, BitVec.setWidth_eq]
  obtain ⟨n, h1, h2⟩ := h
  rw [h2, ix_nI (by omega)]
  exact ⟨rfl, h1⟩
theorem rg0 (n : Nat) : rg n 0 := ⟨rfl, Nat.zero_le _⟩
theorem Inv_0 {g : Nat → Int32} (h : ∀ k, k < 7 → g k = 0) : InvG g := by
  have z : ∀ k, k < 7 → ix (g k) = 0 := fun k hk => by rw [h k hk]; rfl
  unfold InvG
  rw [z 0 (by decide), z 1 (by decide), z 2 (by decide), z 3 (by decide), z 4 (by decide), z 6 (by decide), h 0 (by decide), h 1 (by decide), h 2 (by decide), h 3 (by decide), h 4 (by decide), h 5 (by decide), h 6 (by decide)]
  exact ⟨⟨rg0 _, rg0 _, rg0 _, rg0 _, rg0 _, rg0 _, rg0 _⟩, fun i hi => absurd hi (Nat.not_lt_zero _), fun i hi => absurd hi (Nat.not_lt_zero _), fun i hi => absurd hi (Nat.not_lt_zero _), fun i hi => absurd hi (Nat.not_lt_zero _), fun i hi => absurd hi (Nat.not_lt_zero _), fun i hi => absurd hi (Nat.not_lt_zero _)⟩
theorem RL_0 {c : St} {s : Nat} {g : Nat → Int32} (h : ∀ k, k < 7 → g k = 0) (hl : LC c s) (hz : gi c (s + 1) 3 = 0 ∧ gi c (s + 3) 3 = 0 ∧ gi c (s + 5) 3 = 0 ∧ gi c (s + 7) 3 = 0 ∧ gi c (s + 9) 3 = 0 ∧ gi c s 9 = 0 ∧ gi c s 8 = 0) (hb : ∀ i, i < 18 → gi c (s + 18) i = -1) : RL c s g := by
  have z : ∀ k, k < 7 → ix (g k) = 0 := fun k hk => by rw [h k hk]; rfl
  refine ⟨hl, ?_, ?_, ?_, ?_⟩
  · unfold RLs
    rw [h 0 (by decide), h 1 (by decide), h 2 (by decide), h 3 (by decide), h 4 (by decide), h 5 (by decide), h 6 (by decide)]
    exact hz
  · unfold RLc
    rw [z 0 (by decide), z 1 (by decide), z 2 (by decide), z 3 (by decide), z 4 (by decide)]
    exact ⟨fun i hi => absurd hi (Nat.not_lt_zero _), fun i hi => absurd hi (Nat.not_lt_zero _), fun i hi => absurd hi (Nat.not_lt_zero _), fun i hi => absurd hi (Nat.not_lt_zero _), fun i hi => absurd hi (Nat.not_lt_zero _)⟩
  · intro j k hj hk
    rw [z 1 (by decide), if_neg (Nat.not_lt_zero _), hb _ (by omega)]
  · intro u hu
    rw [z 6 (by decide)] at hu
    exact absurd hu (Nat.not_lt_zero _)
theorem c_empty {c : St} (hl : LC c 76) : ∃ y, ff_SH_makeEmpty c 76 = some ((), y) ∧ onlyS 76 c y ∧ LC y 76 ∧ (gi y 77 3 = 0 ∧ gi y 79 3 = 0 ∧ gi y 81 3 = 0 ∧ gi y 83 3 = 0 ∧ gi y 85 3 = 0 ∧ gi y 76 9 = 0 ∧ gi y 76 8 = 0) ∧ ∀ i, i < 18 → gi y 94 i = -1 := by
  obtain ⟨z, z1, z2, z3⟩ := c_fillI (x := si (si (si (si (si c 77 3 0) 79 3 0) 81 3 0) 83 3 0) 85 3 0) (q := 94) (v := -1) (by decide)
  have e : ∀ a k, ¬ (a = 76 ∧ (k = 8 ∨ k = 9)) → a ≠ 94 → ¬ (k = 3 ∧ (a = 77 ∨ a = 79 ∨ a = 81 ∨ a = 83 ∨ a = 85)) → gi (si (si z 76 8 0) 76 9 0) a k = gi c a k := fun a k h1 h2 h3 => by
    rw [gi_si_n _ _ _ _ (by omega), gi_si_n _ _ _ _ (by omega), z2.1 _ _ h2, gi_si_n _ _ _ _ (by omega), gi_si_n _ _ _ _ (by omega), gi_si_n _ _ _ _ (by omega), gi_si_n _ _ _ _ (by omega), gi_si_n _ _ _ _ (by omega)]
  refine ⟨si (si z 76 8 0) 76 9 0, ?_, ⟨fun a k ha => e a k (by omega) (by omega) (by omega), z2.2⟩, ?_, ⟨?_, ?_, ?_, ?_, ?_, gi_si_s _ _ _ _, ?_⟩, ?_⟩
  · unfold ff_SH_makeEmpty
    rw [show rf 76 0 = 77 from rfl, show rf 76 1 = 79 from rfl, show rf 76 2 = 81 from rfl, show rf 76 3 = 83 from rfl, show rf 76 4 = 85 from rfl, show rf 76 6 = 94 from rfl, st_eq, st_eq, st_eq, st_eq, st_eq, z1, bnd_some, st_eq, st_eq]
  · unfold LC at hl ⊢
    rw [e (76 + 1) 0 (by omega) (by omega) (by omega), e (76 + 1) 1 (by omega) (by omega) (by omega), e (76 + 3) 0 (by omega) (by omega) (by omega), e (76 + 3) 1 (by omega) (by omega) (by omega), e (76 + 5) 0 (by omega) (by omega) (by omega), e (76 + 5) 1 (by omega) (by omega) (by omega), e (76 + 7) 0 (by omega) (by omega) (by omega), e (76 + 7) 1 (by omega) (by omega) (by omega), e (76 + 9) 0 (by omega) (by omega) (by omega), e (76 + 9) 1 (by omega) (by omega) (by omega)]
    exact hl
  · rw [gi_si_n _ _ _ _ (by omega), gi_si_n _ _ _ _ (by omega), z2.1 _ _ (by decide), gi_si_n _ _ _ _ (by omega), gi_si_n _ _ _ _ (by omega), gi_si_n _ _ _ _ (by omega), gi_si_n _ _ _ _ (by omega), gi_si_s]
  · rw [gi_si_n _ _ _ _ (by omega), gi_si_n _ _ _ _ (by omega), z2.1 _ _ (by decide), gi_si_n _ _ _ _ (by omega), gi_si_n _ _ _ _ (by omega), gi_si_n _ _ _ _ (by omega), gi_si_s]
  · rw [gi_si_n _ _ _ _ (by omega), gi_si_n _ _ _ _ (by omega), z2.1 _ _ (by decide), gi_si_n _ _ _ _ (by omega), gi_si_n _ _ _ _ (by omega), gi_si_s]
  · rw [gi_si_n _ _ _ _ (by omega), gi_si_n _ _ _ _ (by omega), z2.1 _ _ (by decide), gi_si_n _ _ _ _ (by omega), gi_si_s]
  · rw [gi_si_n _ _ _ _ (by omega), gi_si_n _ _ _ _ (by omega), z2.1 _ _ (by decide), gi_si_s]
  · rw [gi_si_n _ _ _ _ (by omega), gi_si_s]
  · intro i hi
    rw [gi_si_n _ _ _ _ (by omega), gi_si_n _ _ _ _ (by omega)]
    exact z3 i hi
theorem m_rd9 : ∀ (r N v : Nat) (x : St), v + r = 7 → r < N → gi x 100 1 = nI 945 → (∀ k, k < v → reg x 945 k = 0) → ∃ y, ff_MO_read_9 N x 100 (nI v) = ff_MO_read_27 y 100 ∧ onlyR 945 x y ∧ ∀ k, k < 7 → reg y 945 k = 0 := by
  intro r
  induction r with
  | zero =>
    intro N v x hv hN hb h
    obtain ⟨N, rfl⟩ : ∃ K, N = K + 1 := ⟨N - 1, by omega⟩
    refine ⟨x, ?_, onlyR_rf, fun k hk => h k (by omega)⟩
    show (if (7 : Int32) ≤ nI v then _ else _) = _
    rw [if_pos (show (7 : Int32) ≤ nI v from nI_le (a := 7) (by omega) (by omega))]
  | succ r ih =>
    intro N v x hv hN hb h
    obtain ⟨N, rfl⟩ : ∃ K, N = K + 1 := ⟨N - 1, by omega⟩
    obtain ⟨y, y1, y2, y3⟩ := ih N (v + 1) (si x 101 (945 + v) 0) (by omega) (by omega) (by rw [gi_si_n _ _ _ _ (by omega)]; exact hb) (fun k hk => by
      rw [reg_si]
      by_cases z : k = v
      · rw [z, upd_s]
      · rw [upd_n _ _ z]; exact h k (by omega))
    refine ⟨y, ?_, onlyR_tr (onlyR_si _ _ (by omega)) y2, y3⟩
    show (if (7 : Int32) ≤ nI v then _ else _) = _
    rw [if_neg (show ¬ (7 : Int32) ≤ nI v from nI_ge (b := 7) (by omega) (by decide)), m_s hb (by decide) (by omega), bnd_some, nI_1, y1]
theorem Rel_rd {c m c' m' : St} (h : Rel c m) (hC : frC c c') (hM : ∀ a k, ¬ (a = 100 ∧ 8 ≤ k ∧ k ≤ 12) → ¬ (a = 101 ∧ 945 ≤ k) → gi m' a k = gi m a k) (hMl : ∀ a k, gl m' a k = gl m a k) : Rel c' m' := by
  obtain ⟨⟨a1, a2, a3⟩, ⟨b1, b2⟩, ⟨d1, d2⟩, ⟨e1, e2, e3⟩, f, ⟨g1, g2, g3⟩, ⟨i1, i2⟩, j⟩ := h
  have r0 : ∀ k, k < 315 → reg m' 0 k = reg m 0 k := fun k hk => hM _ _ (by omega) (by omega)
  have t7 : gi m' 100 7 = gi m 100 7 := hM _ _ (by omega) (by omega)
  refine ⟨⟨?_, ?_, ?_⟩, ⟨?_, ?_⟩, ⟨?_, ?_⟩, ⟨?_, ?_, ?_⟩, ?_, ⟨?_, ?_, hC.2.2⟩, ⟨?_, ?_⟩, ?_⟩
  · rw [hC.1 _ _ (by omega) (by omega), hM _ _ (by omega) (by omega)]; exact a1
  · rw [hC.1 _ _ (by omega) (by omega), hM _ _ (by omega) (by omega)]; exact a2
  · rw [hC.1 _ _ (by omega) (by omega), hM _ _ (by omega) (by omega)]; exact a3
  · rw [hC.2.1, hMl]; exact b1
  · rw [hC.2.1, hMl]; exact b2
  · rw [hM _ _ (by omega) (by omega)]; exact d1
  · rw [hM _ _ (by omega) (by omega)]; exact d2
  · rw [hC.1 _ _ (by omega) (by omega), t7]; exact e1
  · rw [t7]; exact e2
  · intro i hi
    rw [t7] at hi
    rw [hC.1 _ _ (by omega) (by omega), hM _ _ (by omega) (by omega)]; exact e3 i hi
  · intro i hi
    rw [hC.1 _ _ (by omega) (by omega), hM _ _ (by omega) (by omega)]; exact f i hi
  · exact LC_eq g1 (fun a k h1 _ _ => hC.1 a k (by omega) (by omega))
  · exact LC_eq g2 (fun a k h1 _ _ => hC.1 a k (by omega) (by omega))
  · exact InvG_cg i1 r0
  · exact RS_cg i1 (RSg_in i1 i2 (fun a k h1 _ => hC.1 a k (by omega) (by omega))) r0
  · intro i hi hk
    rw [hM _ _ (by omega) (by omega)] at hk
    obtain ⟨j1, j2⟩ := j i hi hk
    have r1 : ∀ k, k < 315 → reg m' (315 * (1 + i)) k = reg m (315 * (1 + i)) k := fun k hk => hM _ _ (by omega) (by omega)
    exact ⟨InvG_cg j1 r1, RS_cg j1 (RSg_in j1 j2 (fun a k h1 _ => hC.1 a k (by omega) (by omega))) r1⟩
theorem c_renewAll {g : Nat → Int32} (hI : InvG g) : ∀ (r N v : Nat) (x : St), v + r = ix (g 0) → r < N → RL x 16 g → (∀ m, m < v → ∀ e, e < 100 → gi x (28 + m) e = nI (GR g (-1) m e)) → ∃ y, ff_SH_renewAllGriefs_2 N x 16 (nI v) = some ((), y) ∧ onlyS 16 x y ∧ RS y 16 g := by
  have r0 := hI.1.1
  have r02 := r0.2
  intro r
  induction r with
  | zero =>
    intro N v x hv hN h hm
    obtain ⟨N, rfl⟩ : ∃ K, N = K + 1 := ⟨N - 1, by omega⟩
    refine ⟨x, ?_, onlyS_rf, h, fun m hm2 e he => hm m (by omega) e he⟩
    show (if gi x (rf 16 0) 3 ≤ nI v then _ else _) = _
    rw [show gi x (rf 16 0) 3 = nI (ix (g 0)) from h.2.1.1.trans r0.1, if_pos (nI_le (by omega) (by omega))]
  | succ r ih =>
    intro N v x hv hN h hm
    obtain ⟨N, rfl⟩ : ∃ K, N = K + 1 := ⟨N - 1, by omega⟩
    obtain ⟨y, y1, y2, y3⟩ := c_renew (s := 16) (Or.inl rfl) hI h (k := v) (by omega)
    obtain ⟨z, z1, z2, z3⟩ := ih N (v + 1) y (by omega) (by omega) (RL_only h y2 (by omega)) (fun m hm2 e he => by
      by_cases q : m = v
      · rw [q]; exact y3 e he
      · rw [y2.1 _ _ (by omega)]; exact hm m (by omega) e he)
    refine ⟨z, ?_, onlyS_tr (onlyS_of y2 (by omega) (by omega)) z2, z3⟩
    show (if gi x (rf 16 0) 3 ≤ nI v then _ else _) = _
    rw [show gi x (rf 16 0) 3 = nI (ix (g 0)) from h.2.1.1.trans r0.1, if_neg (nI_ge (by omega) (by omega)), y1, bnd_some, nI_1, z1]
theorem s_read {c m : St} (h : Rel c m) : Sim (ff_GG_read c 0) (ff_MO_read m 100) := by
  obtain ⟨-, -, ⟨hb0, -⟩, ⟨e1, e2, e3⟩, -, ⟨-, -, hl⟩, ⟨hI, hR⟩, -⟩ := id h
  have e22 := e2.2
  obtain ⟨c1, c11, c12, c13, c14, c15⟩ := c_empty hl
  -- the class, before its loop
  obtain ⟨c2, hc2⟩ : ∃ c2, c2 = si (si c1 3 2 0) 3 3 (-1) := ⟨_, rfl⟩
  have o2 : onlyC c1 c2 := by
    rw [hc2]
    exact onlyC_tr (onlyC_3 (only3_si _ _ (by omega))) (onlyC_si _ _)
  have oCC : onlyC c c := ⟨fun _ _ _ => rfl, fun _ _ => rfl⟩
  have fC : frC c c2 := by
    refine frC_C ⟨fun a k h1 h2 => c12.1 a k (by omega), c12.2, c13⟩ o2
  -- the reference, before its loop
  obtain ⟨m1, m11, m12, m13⟩ := m_rd9 7 FU 0 (si m 100 1 945) (by decide) (by unfold FU; omega) (gi_si_s _ _ _ _) (fun k hk => by omega)
  obtain ⟨m2, hm2⟩ : ∃ m2, m2 = si (si m1 100 8 0) 100 12 (-1) := ⟨_, rfl⟩
  have oT2 : onlyT m1 m2 := by
    rw [hm2]
    exact ⟨fun a k h => by rw [gi_si_n _ _ _ _ (by omega), gi_si_n _ _ _ _ (by omega)], fun _ _ => rfl⟩
  have b1 : gi m1 100 1 = nI 945 := by rw [m12.1 _ _ (by omega), gi_si_s]; rfl
  obtain ⟨m0, hm0⟩ : ∃ m0, m0 = si m 100 1 945 := ⟨_, rfl⟩
  have fM2 : frM m0 m2 := frM_T ⟨b1, fun a k h1 h2 => by rw [hm0]; exact m12.1 a k (by omega), fun a k => by rw [hm0]; exact m12.2 a k⟩ oT2
  obtain ⟨t, ht⟩ : ∃ t, t = ix (gi m 100 7) := ⟨_, rfl⟩
  obtain ⟨f, hf⟩ : ∃ f : Nat → Nat, f = fun i => ix (gi m 104 i &&& 255) := ⟨_, rfl⟩
  have hTX : TX c2 t f := by
    refine ⟨by rw [ht]; exact e22, ?_, fun i hi => ?_⟩
    · rw [fC.1 _ _ (by omega) (by omega), e1, ht]; exact e2.1
    · rw [fC.1 _ _ (by omega) (by omega), e3 i (by rw [← ht]; exact hi), hf]
      exact and255 _
  have hTM : TM m2 t f := by
    have eM : ∀ a k, ¬ (a = 100 ∧ (k = 1 ∨ (8 ≤ k ∧ k ≤ 12))) → ¬ (a = 101 ∧ 945 ≤ k) → gi m2 a k = gi m a k := fun a k h1 h2 => by
      rw [fM2.2.1 a k (by omega) h2, hm0, gi_si_n _ _ _ _ (by omega)]
    refine ⟨by rw [ht]; exact e22, ?_, fun i hi => ?_⟩
    · rw [eM _ _ (by omega) (by omega), ht]; exact e2.1
    · rw [eM _ _ (by omega) (by omega), hf]
      exact and255 _
  obtain ⟨m3, m31, m32, m33, m34, m35, m36⟩ := m_token (p := 0) hTM (Nat.zero_le _) (by rw [hm2, gi_si_n _ _ _ _ (by omega), gi_si_s]; rfl)
  have oT3 := onlyT_K m32
  have z3 : ∀ k, k < 7 → reg m3 945 k = 0 := fun k hk => by rw [reg_T oT3, reg_T oT2]; exact m13 k hk
  have fM3 : frM m0 m3 := frM_T fM2 oT3
  have hJJ : JJ t f c m0 c2 m3 0 := by
    refine ⟨Nat.zero_le _, ⟨hTX, by rw [hc2, gi_si_n _ _ _ _ (by omega), gi_si_s]; rfl, by rw [hc2, gi_si_s]⟩, ⟨TM_K hTM m32, m34, m33, m35, m36, by rw [m32.1 _ _ (by omega), hm2, gi_si_s]⟩, ⟨by unfold sp; omega, ⟨fM3.1, by decide⟩, Inv_0 z3, ?_⟩, fC, fM3⟩
    refine RL_eq (RL_0 (c := c1) (s := 76) z3 c13 c14 c15) (fun a k h1 h2 _ => o2.1 a k (by omega))
  obtain ⟨k, c', m', k1, k2, k3⟩ := rd_loop t 0 FU FU 0 c2 m3 (by omega) (by unfold FU; have := hTX.1; omega) (by unfold FU; have := hTX.1; omega) (by omega) hJJ
  have eC : ff_RE_readItems c (rf 0 3) = some (nI k, c') := by
    unfold ff_RE_readItems
    rw [show rf 0 3 = 3 from rfl, show rf 3 4 = 76 from rfl, c11, bnd_some, st_eq, st_eq, ← hc2]
    exact k1
  have eM : ff_MO_read m 100 = ff_MO_read_70 m' 100 (nI k) := by
    unfold ff_MO_read
    rw [st_eq]
    refine Eq.trans m11 ?_
    unfold ff_MO_read_27
    rw [st_eq, st_eq, ← hm2, m31, bnd_some]
    exact k2
  have back : frM m0 m' → ∀ a k, ¬ (a = 100 ∧ 8 ≤ k ∧ k ≤ 12) → ¬ (a = 101 ∧ 945 ≤ k) → gi (si m' 100 1 0) a k = gi m a k := by
    intro q a k h1 h2
    by_cases z : a = 100 ∧ k = 1
    · rw [z.1, z.2, gi_si_s]; exact hb0.symm
    · rw [gi_si_n _ _ _ _ z, q.2.1 a k h1 h2, hm0, gi_si_n _ _ _ _ z]
  have backl : frM m0 m' → ∀ a k, gl (si m' 100 1 0) a k = gl m a k := by
    intro q a k
    show gl m' a k = gl m a k
    rw [q.2.2 a k, hm0]; rfl
  unfold ff_GG_read
  rw [eC, bnd_some, eM]
  unfold ff_MO_read_70
  rw [st_eq, show rf 0 3 = 3 from rfl, show rf 0 0 = 16 from rfl, show rf 3 4 = 76 from rfl, gi_si_n _ _ _ _ (by omega)]
  rcases k3 with ⟨q1, q2, q3, q4, q5⟩ | ⟨q, q1, q2, q3, q4, q5⟩
  · rw [q1, if_pos rfl, q2, if_pos rfl]
    have hrel := Rel_rd h q4 (back q5) (backl q5)
    obtain ⟨-, -, hI', hR'⟩ := id q3
    have hl16 : LC c' 16 := LC_eq hR.1.1 (fun a k h1 h2 _ => q4.1 a k (by omega) (by omega))
    obtain ⟨y, y1, y2, y3, -⟩ := c_copy (d := 16) (s := 76) (Or.inl rfl) (by unfold sp; omega) (by omega) hI' hR' hl16
    obtain ⟨z, z1, z2, z3⟩ := c_renewAll hI' (ix (reg m' 945 0)) FU 0 y (by omega) (by have := hI'.1.1.2; unfold FU; omega) y3 (fun m hm => by omega)
    obtain ⟨w, w1, w2, w3⟩ := m_copy (x := si m' 100 1 0) (src := 945) (dst := 0) (by omega) (by omega) (by omega)
    have w3' : ∀ k, k < 315 → reg w 0 k = reg m' 945 k := fun k hk => by rw [w3 k hk]; exact gi_si_n _ _ _ _ (by omega)
    refine ⟨nI k, z, w, ?_, ?_, Rel_shR hrel (onlyS_tr y2 z2) w2 (InvG_cg hI' w3') (RS_cg hI' z3 w3')⟩
    · unfold ff_SH_renewAllGriefs
      rw [y1, bnd_some, show ff_SH_renewAllGriefs_2 FU y 16 0 = _ from z1, bnd_some]
    · rw [show ff_MO_copy (si m' 100 1 0) 100 945 0 = _ from w1, bnd_some]
  · rw [q2, if_neg (nI_ne_m1 (by omega)), q3, if_neg (nI_ne_m1 (by omega))]
    exact ⟨-10 - nI q, c', si m' 100 1 0, rfl, rfl, Rel_rd h q4 (back q5) (backl q5)⟩
