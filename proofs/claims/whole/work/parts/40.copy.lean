/-! copies of a shop -/
theorem le_copy {x : St} {q q' L : Nat} (h1 : ln (rf q 2) = L) (h2 : ln (rf q' 2) = L) (hL : L < 1000) (n1 : q' ≠ rf q 2) : ∃ y, ff_LE_copyFrom x q q' = some ((), y) ∧ (∀ a k, a ≠ rf q 2 → ¬ (a = q ∧ k = 3) → gi y a k = gi x a k) ∧ (∀ a k, gl y a k = gl x a k) ∧ gi y q 3 = gi x q' 3 ∧ (q ≠ rf q 2 → ∀ k, k < L → gi y (rf q 2) k = gi x (rf q' 2) k) := by
  refine ⟨si (cpi x (rf q' 2) 0 (rf q 2) 0 L) q 3 (gi x q' 3), ?_, fun a k ha hb => ?_, fun _ _ => rfl, gi_si_s _ _ _ _, fun hq k hk => ?_⟩
  · unfold ff_LE_copyFrom
    have hs : spb 0 (Int32.ofNat L) L = true := spb_nI (a := 0) (n := L) (by omega) (by decide) (by omega)
    rw [h1, h2, if_pos rfl, if_pos hs, if_pos hs, st_eq, st_eq, show ix (Int32.ofNat L) = L from ix_nI (by omega)]
    show some ((), si (cpi x (rf q' 2) 0 (rf q 2) 0 L) q 3 (gi (cpi x (rf q' 2) 0 (rf q 2) 0 L) q' 3)) = _
    rw [gi_cpi, if_neg (fun e => n1 e.1)]
  · rw [gi_si_n _ _ _ _ hb, gi_cpi, if_neg (fun e => ha e.1)]
  · rw [gi_si_n _ _ _ _ (fun e => hq e.1.symm), gi_cpi, if_pos ⟨rfl, by omega, by omega⟩, show 0 + (k - 0) = k by omega]
theorem c_cp57 {d s n : Nat} (hd : sp d) (hs : sp s) (hds : d + 20 ≤ s ∨ s + 20 ≤ d) (hn : n ≤ 6) : ∀ (r N i : Nat) (x : St), i + r = n → r < N → gi x (d + 1) 3 = nI n → ∃ y, ff_SH_copyFrom_57 N x d s (nI i) = ff_SH_copyFrom_93 y d s ∧ (∀ a k, ¬ (d + 12 ≤ a ∧ a < d + 18) → gi y a k = gi x a k) ∧ (∀ a k, gl y a k = gl x a k) ∧ (∀ m e, m < i → gi y (d + 12 + m) e = gi x (d + 12 + m) e) ∧ ∀ m e, i ≤ m → m < n → e < 100 → gi y (d + 12 + m) e = gi x (s + 12 + m) e := by
  intro r
  induction r with
  | zero =>
    intro N i x hi hN hz
    obtain ⟨N, rfl⟩ : ∃ K, N = K + 1 := ⟨N - 1, by omega⟩
    refine ⟨x, ?_, fun _ _ _ => rfl, fun _ _ => rfl, fun _ _ _ => rfl, fun m e _ _ _ => by omega⟩
    show (if gi x (rf d 0) 3 ≤ nI i then _ else _) = _
    rw [(sp_rf hd).1, hz, if_pos (nI_le (by omega) (by omega))]
  | succ r ih =>
    intro N i x hi hN hz
    obtain ⟨N, rfl⟩ : ∃ K, N = K + 1 := ⟨N - 1, by omega⟩
    obtain ⟨y, y1, y2, y3, y4, y5⟩ := ih N (i + 1) (cpi x (s + 12 + i) 0 (d + 12 + i) 0 100) (by omega) (by omega) (by rw [gi_cpi, if_neg (by omega)]; exact hz)
    refine ⟨y, ?_, fun a k ha => by rw [y2 a k ha, gi_cpi, if_neg (by omega)], fun a k => by rw [y3]; rfl, fun m e hm => by rw [y4 m e (by omega), gi_cpi, if_neg (by omega)], fun m e h1 h2 h3 => ?_⟩
    · rw [← y1]
      show (if gi x (rf d 0) 3 ≤ nI i then _ else _) = _
      rw [(sp_rf hd).1, hz, if_neg (nI_ge (by omega) (by omega)), (sp_rf hs).2.2.2.2.2.1, (sp_rf hd).2.2.2.2.2.1, (sp_ln hs).2.2.2.2.2.1, (sp_ln hd).2.2.2.2.2.1, if_pos (ixb_nI (by omega) (by omega)), if_pos (ixb_nI (by omega) (by omega)), ix_nI (by omega), (sp_row hs (by omega)).1, (sp_row hd (by omega)).1, (sp_row hs (by omega)).2, (sp_row hd (by omega)).2, if_pos (by decide), if_pos (by decide), st_eq, nI_1]; rfl
    · by_cases z : m = i
      · subst z
        rw [y4 m e (by omega), gi_cpi, if_pos ⟨rfl, by omega, by omega⟩, show 0 + (e - 0) = e by omega]
      · rw [y5 m e (by omega) h2 h3, gi_cpi, if_neg (by omega)]
theorem lec0 {d s : Nat} (x : St) (hd : sp d) (hs : sp s) (hds : d + 20 ≤ s ∨ s + 20 ≤ d) : ∃ y, ff_LE_copyFrom x (rf d 0) (rf s 0) = some ((), y) ∧ (∀ a k, a ≠ d + 2 → ¬ (a = d + 1 ∧ k = 3) → gi y a k = gi x a k) ∧ (∀ a k, gl y a k = gl x a k) ∧ gi y (d + 1) 3 = gi x (s + 1) 3 ∧ ∀ k, k < 18 → gi y (d + 2) k = gi x (s + 2) k := by
  have n1 : s + 1 ≠ d + 2 := by omega
  have n2 : d + 1 ≠ d + 2 := by omega
  obtain ⟨y, y1, y2, y3, y4, y5⟩ := le_copy (x := x) (q := d + 1) (q' := s + 1) (L := 18) (by rw [(sp_le hd).1]; exact (sp_ln hd).1) (by rw [(sp_le hs).1]; exact (sp_ln hs).1) (by decide) (by rw [(sp_le hd).1]; exact n1)
  rw [(sp_le hd).1] at y2 y5
  rw [(sp_le hs).1] at y5
  exact ⟨y, by rw [(sp_rf hd).1, (sp_rf hs).1]; exact y1, y2, y3, y4, y5 n2⟩
theorem lec1 {d s : Nat} (x : St) (hd : sp d) (hs : sp s) (hds : d + 20 ≤ s ∨ s + 20 ≤ d) : ∃ y, ff_LE_copyFrom x (rf d 1) (rf s 1) = some ((), y) ∧ (∀ a k, a ≠ d + 4 → ¬ (a = d + 3 ∧ k = 3) → gi y a k = gi x a k) ∧ (∀ a k, gl y a k = gl x a k) ∧ gi y (d + 3) 3 = gi x (s + 3) 3 ∧ ∀ k, k < 6 → gi y (d + 4) k = gi x (s + 4) k := by
  have n1 : s + 3 ≠ d + 4 := by omega
  have n2 : d + 3 ≠ d + 4 := by omega
  obtain ⟨y, y1, y2, y3, y4, y5⟩ := le_copy (x := x) (q := d + 3) (q' := s + 3) (L := 6) (by rw [(sp_le hd).2.1]; exact (sp_ln hd).2.1) (by rw [(sp_le hs).2.1]; exact (sp_ln hs).2.1) (by decide) (by rw [(sp_le hd).2.1]; exact n1)
  rw [(sp_le hd).2.1] at y2 y5
  rw [(sp_le hs).2.1] at y5
  exact ⟨y, by rw [(sp_rf hd).2.1, (sp_rf hs).2.1]; exact y1, y2, y3, y4, y5 n2⟩
theorem lec2 {d s : Nat} (x : St) (hd : sp d) (hs : sp s) (hds : d + 20 ≤ s ∨ s + 20 ≤ d) : ∃ y, ff_LE_copyFrom x (rf d 2) (rf s 2) = some ((), y) ∧ (∀ a k, a ≠ d + 6 → ¬ (a = d + 5 ∧ k = 3) → gi y a k = gi x a k) ∧ (∀ a k, gl y a k = gl x a k) ∧ gi y (d + 5) 3 = gi x (s + 5) 3 ∧ ∀ k, k < 8 → gi y (d + 6) k = gi x (s + 6) k := by
  have n1 : s + 5 ≠ d + 6 := by omega
  have n2 : d + 5 ≠ d + 6 := by omega
  obtain ⟨y, y1, y2, y3, y4, y5⟩ := le_copy (x := x) (q := d + 5) (q' := s + 5) (L := 8) (by rw [(sp_le hd).2.2.1]; exact (sp_ln hd).2.2.1) (by rw [(sp_le hs).2.2.1]; exact (sp_ln hs).2.2.1) (by decide) (by rw [(sp_le hd).2.2.1]; exact n1)
  rw [(sp_le hd).2.2.1] at y2 y5
  rw [(sp_le hs).2.2.1] at y5
  exact ⟨y, by rw [(sp_rf hd).2.2.1, (sp_rf hs).2.2.1]; exact y1, y2, y3, y4, y5 n2⟩
theorem lec3 {d s : Nat} (x : St) (hd : sp d) (hs : sp s) (hds : d + 20 ≤ s ∨ s + 20 ≤ d) : ∃ y, ff_LE_copyFrom x (rf d 3) (rf s 3) = some ((), y) ∧ (∀ a k, a ≠ d + 8 → ¬ (a = d + 7 ∧ k = 3) → gi y a k = gi x a k) ∧ (∀ a k, gl y a k = gl x a k) ∧ gi y (d + 7) 3 = gi x (s + 7) 3 ∧ ∀ k, k < 30 → gi y (d + 8) k = gi x (s + 8) k := by
  have n1 : s + 7 ≠ d + 8 := by omega
  have n2 : d + 7 ≠ d + 8 := by omega
  obtain ⟨y, y1, y2, y3, y4, y5⟩ := le_copy (x := x) (q := d + 7) (q' := s + 7) (L := 30) (by rw [(sp_le hd).2.2.2.1]; exact (sp_ln hd).2.2.2.1) (by rw [(sp_le hs).2.2.2.1]; exact (sp_ln hs).2.2.2.1) (by decide) (by rw [(sp_le hd).2.2.2.1]; exact n1)
  rw [(sp_le hd).2.2.2.1] at y2 y5
  rw [(sp_le hs).2.2.2.1] at y5
  exact ⟨y, by rw [(sp_rf hd).2.2.2.1, (sp_rf hs).2.2.2.1]; exact y1, y2, y3, y4, y5 n2⟩
theorem lec4 {d s : Nat} (x : St) (hd : sp d) (hs : sp s) (hds : d + 20 ≤ s ∨ s + 20 ≤ d) : ∃ y, ff_LE_copyFrom x (rf d 4) (rf s 4) = some ((), y) ∧ (∀ a k, a ≠ d + 10 → ¬ (a = d + 9 ∧ k = 3) → gi y a k = gi x a k) ∧ (∀ a k, gl y a k = gl x a k) ∧ gi y (d + 9) 3 = gi x (s + 9) 3 ∧ ∀ k, k < 18 → gi y (d + 10) k = gi x (s + 10) k := by
  have n1 : s + 9 ≠ d + 10 := by omega
  have n2 : d + 9 ≠ d + 10 := by omega
  obtain ⟨y, y1, y2, y3, y4, y5⟩ := le_copy (x := x) (q := d + 9) (q' := s + 9) (L := 18) (by rw [(sp_le hd).2.2.2.2]; exact (sp_ln hd).2.2.2.2.1) (by rw [(sp_le hs).2.2.2.2]; exact (sp_ln hs).2.2.2.2.1) (by decide) (by rw [(sp_le hd).2.2.2.2]; exact n1)
  rw [(sp_le hd).2.2.2.2] at y2 y5
  rw [(sp_le hs).2.2.2.2] at y5
  exact ⟨y, by rw [(sp_rf hd).2.2.2.2.1, (sp_rf hs).2.2.2.2.1]; exact y1, y2, y3, y4, y5 n2⟩
theorem c_copy {c : St} {d s : Nat} {g : Nat → Int32} (hd : sp d) (hs : sp s) (hds : d + 20 ≤ s ∨ s + 20 ≤ d) (hI : InvG g) (h : RL c s g) (hl : LC c d) : ∃ y, ff_SH_copyFrom c d s = some ((), y) ∧ onlyS d c y ∧ RL y d g ∧ ∀ m e, m < ix (g 0) → e < 100 → gi y (d + 12 + m) e = gi c (s + 12 + m) e := by
  have r0 := hI.1.1
  have r02 := r0.2
  have r12 := hI.1.2.1.2
  have r22 := hI.1.2.2.1.2
  have r32 := hI.1.2.2.2.1.2
  have r42 := hI.1.2.2.2.2.1.2
  have r62 := hI.1.2.2.2.2.2.2.2
  obtain ⟨hlS, ⟨s0, s1, s2, s3, s4, s5, s6⟩, ⟨h0, h1, h2, h3, h4⟩, hb, hp⟩ := h
  obtain ⟨a, a1, a2, a3, a4, a5⟩ := lec0 c hd hs hds
  obtain ⟨b, b1, b2, b3, b4, b5⟩ := lec1 a hd hs hds
  obtain ⟨u, u1, u2, u3, u4, u5⟩ := lec2 b hd hs hds
  obtain ⟨v, v1, v2, v3, v4, v5⟩ := lec3 u hd hs hds
  obtain ⟨w, w1, w2, w3, w4, w5⟩ := lec4 v hd hs hds
  have z0 : gi w (d + 1) 3 = nI (ix (g 0)) := by rw [w2 _ _ (by omega) (by omega), v2 _ _ (by omega) (by omega), u2 _ _ (by omega) (by omega), b2 _ _ (by omega) (by omega), a4, s0]; exact r0.1
  obtain ⟨x, x1, x2, x3, -, x5⟩ := c_cp57 hd hs hds r02 (ix (g 0)) FU 0 w (by omega) (by unfold FU; omega) z0
  obtain ⟨Y, hY⟩ : ∃ Y, Y = si (si (cpi (cpi x (s + 18) 0 (d + 18) 0 18) (s + 19) 0 (d + 19) 0 190) d 8 (gi x s 8)) d 9 (gi x s 9) := ⟨_, rfl⟩
  have yo : ∀ i k, i ≠ d + 18 → i ≠ d + 19 → ¬ (i = d ∧ (k = 8 ∨ k = 9)) → gi Y i k = gi x i k := fun i k g1 g2 g3 => by rw [hY, gi_si_n _ _ _ _ (by omega), gi_si_n _ _ _ _ (by omega), gi_cpi, if_neg (by omega), gi_cpi, if_neg (by omega)]
  have wc : ∀ i k, ¬ (d + 1 ≤ i ∧ i < d + 11) → gi w i k = gi c i k := fun i k hi => by rw [w2 _ _ (by omega) (by omega), v2 _ _ (by omega) (by omega), u2 _ _ (by omega) (by omega), b2 _ _ (by omega) (by omega), a2 _ _ (by omega) (by omega)]
  have xc : ∀ i k, ¬ (d + 1 ≤ i ∧ i < d + 18) → gi x i k = gi c i k := fun i k hi => by rw [x2 _ _ (by omega), wc _ _ (by omega)]
  have y18 : ∀ k, k < 18 → gi Y (d + 18) k = gi c (s + 18) k := fun k hk => by rw [hY, gi_si_n _ _ _ _ (by omega), gi_si_n _ _ _ _ (by omega), gi_cpi, if_neg (by omega), gi_cpi, if_pos ⟨rfl, by omega, by omega⟩, show 0 + (k - 0) = k by omega, xc _ _ (by omega)]
  have y19 : ∀ k, k < 190 → gi Y (d + 19) k = gi c (s + 19) k := fun k hk => by rw [hY, gi_si_n _ _ _ _ (by omega), gi_si_n _ _ _ _ (by omega), gi_cpi, if_pos ⟨rfl, by omega, by omega⟩, show 0 + (k - 0) = k by omega, gi_cpi, if_neg (by omega), xc _ _ (by omega)]
  have yw : ∀ i k, d + 1 ≤ i → i < d + 11 → gi Y i k = gi w i k := fun i k g1 g2 => by rw [yo _ _ (by omega) (by omega) (by omega), x2 _ _ (by omega)]
  refine ⟨Y, ?_, ⟨fun i k hi => by rw [yo _ _ (by omega) (by omega) (by omega), xc _ _ (by omega)], fun i k => by rw [hY]; show gl x i k = _; rw [x3, w3, v3, u3, b3, a3]⟩, ⟨?_, ⟨?_, ?_, ?_, ?_, ?_, ?_, ?_⟩, ⟨?_, ?_, ?_, ?_, ?_⟩, ?_, ?_⟩, fun m e hm he => ?_⟩
  · unfold ff_SH_copyFrom
    have x1' : ff_SH_copyFrom_57 FU w d s 0 = _ := x1
    rw [a1, bnd_some, b1, bnd_some, u1, bnd_some, v1, bnd_some, w1, bnd_some, x1']
    unfold ff_SH_copyFrom_93
    rw [(sp_rf hs).2.2.2.2.2.2.1, (sp_rf hd).2.2.2.2.2.2.1, (sp_rf hs).2.2.2.2.2.2.2, (sp_rf hd).2.2.2.2.2.2.2, (sp_ln hs).2.2.2.2.2.2.1, (sp_ln hd).2.2.2.2.2.2.1, (sp_ln hs).2.2.2.2.2.2.2, (sp_ln hd).2.2.2.2.2.2.2, if_pos (by decide), if_pos (by decide), st_eq, if_pos (by decide), if_pos (by decide), st_eq, st_eq, st_eq, hY]
    show some ((), si (si (cpi (cpi x (s + 18) 0 (d + 18) 0 18) (s + 19) 0 (d + 19) 0 190) d 8 (gi (cpi (cpi x (s + 18) 0 (d + 18) 0 18) (s + 19) 0 (d + 19) 0 190) s 8)) d 9 (gi (si (cpi (cpi x (s + 18) 0 (d + 18) 0 18) (s + 19) 0 (d + 19) 0 190) d 8 (gi (cpi (cpi x (s + 18) 0 (d + 18) 0 18) (s + 19) 0 (d + 19) 0 190) s 8)) s 9)) = _
    rw [gi_si_n _ _ _ _ (by omega), gi_cpi, if_neg (by omega), gi_cpi, if_neg (by omega), gi_cpi, if_neg (by omega), gi_cpi, if_neg (by omega)]
  · have hh : ∀ i k, (k = 0 ∨ k = 1) → (i = 1 ∨ i = 3 ∨ i = 5 ∨ i = 7 ∨ i = 9) → gi Y (d + i) k = gi c (d + i) k := fun i k hk hi => by
      rw [yw _ _ (by omega) (by omega), w2 _ _ (by omega) (by omega), v2 _ _ (by omega) (by omega), u2 _ _ (by omega) (by omega), b2 _ _ (by omega) (by omega), a2 _ _ (by omega) (by omega)]
    unfold LC at hl ⊢
    rw [hh 1 0 (by omega) (by omega), hh 1 1 (by omega) (by omega), hh 3 0 (by omega) (by omega), hh 3 1 (by omega) (by omega), hh 5 0 (by omega) (by omega), hh 5 1 (by omega) (by omega), hh 7 0 (by omega) (by omega), hh 7 1 (by omega) (by omega), hh 9 0 (by omega) (by omega), hh 9 1 (by omega) (by omega)]
    exact hl
  · rw [yw _ _ (by omega) (by omega), z0]; exact r0.1.symm
  · rw [yw _ _ (by omega) (by omega), w2 _ _ (by omega) (by omega), v2 _ _ (by omega) (by omega), u2 _ _ (by omega) (by omega), b4, a2 _ _ (by omega) (by omega)]; exact s1
  · rw [yw _ _ (by omega) (by omega), w2 _ _ (by omega) (by omega), v2 _ _ (by omega) (by omega), u4, b2 _ _ (by omega) (by omega), a2 _ _ (by omega) (by omega)]; exact s2
  · rw [yw _ _ (by omega) (by omega), w2 _ _ (by omega) (by omega), v4, u2 _ _ (by omega) (by omega), b2 _ _ (by omega) (by omega), a2 _ _ (by omega) (by omega)]; exact s3
  · rw [yw _ _ (by omega) (by omega), w4, v2 _ _ (by omega) (by omega), u2 _ _ (by omega) (by omega), b2 _ _ (by omega) (by omega), a2 _ _ (by omega) (by omega)]; exact s4
  · rw [hY, gi_si_s, xc _ _ (by omega)]; exact s5
  · rw [hY, gi_si_n _ _ _ _ (by omega), gi_si_s, xc _ _ (by omega)]; exact s6
  · intro i hi
    rw [yw _ _ (by omega) (by omega), w2 _ _ (by omega) (by omega), v2 _ _ (by omega) (by omega), u2 _ _ (by omega) (by omega), b2 _ _ (by omega) (by omega), a5 i (by omega)]; exact h0 i hi
  · intro i hi
    rw [yw _ _ (by omega) (by omega), w2 _ _ (by omega) (by omega), v2 _ _ (by omega) (by omega), u2 _ _ (by omega) (by omega), b5 i (by omega), a2 _ _ (by omega) (by omega)]; exact h1 i hi
  · intro i hi
    rw [yw _ _ (by omega) (by omega), w2 _ _ (by omega) (by omega), v2 _ _ (by omega) (by omega), u5 i (by omega), b2 _ _ (by omega) (by omega), a2 _ _ (by omega) (by omega)]; exact h2 i hi
  · intro i hi
    rw [yw _ _ (by omega) (by omega), w2 _ _ (by omega) (by omega), v5 i (by omega), u2 _ _ (by omega) (by omega), b2 _ _ (by omega) (by omega), a2 _ _ (by omega) (by omega)]; exact h3 i hi
  · intro i hi
    rw [yw _ _ (by omega) (by omega), w5 i (by omega), v2 _ _ (by omega) (by omega), u2 _ _ (by omega) (by omega), b2 _ _ (by omega) (by omega), a2 _ _ (by omega) (by omega)]; exact h4 i hi
  · intro j k hj hk
    rw [y18 _ (by omega)]; exact hb j k hj hk
  · intro u' hu
    exact ⟨by rw [y19 _ (by omega)]; exact (hp u' hu).1, fun j k hj hk => by rw [y19 _ (by omega)]; exact (hp u' hu).2 j k hj hk⟩
  · rw [yo _ _ (by omega) (by omega) (by omega), x5 m e (by omega) hm he, wc _ _ (by omega)]
theorem m_copyL {src dst : Nat} (h1 : src + 315 ≤ 1260) (h2 : dst + 315 ≤ 1260) (hd : src + 315 ≤ dst ∨ dst + 315 ≤ src) : ∀ (r N v : Nat) (x : St), v + r = 315 → r < N → (∀ k, k < v → gi x 101 (dst + k) = gi x 101 (src + k)) → ∃ y, ff_MO_copy_2 N x 100 (nI src) (nI dst) (nI v) = some ((), y) ∧ onlyR dst x y ∧ ∀ k, k < 315 → gi y 101 (dst + k) = gi x 101 (src + k) := by
  intro r
  induction r with
  | zero =>
    intro N v x hv hN h
    obtain ⟨N, rfl⟩ : ∃ K, N = K + 1 := ⟨N - 1, by omega⟩
    refine ⟨x, ?_, onlyR_rf, fun k hk => h k (by omega)⟩
    show (if (315 : Int32) ≤ nI v then _ else _) = _
    rw [if_pos (show (315 : Int32) ≤ nI v from nI_le (a := 315) (by omega) (by omega))]
  | succ r ih =>
    intro N v x hv hN h
    obtain ⟨N, rfl⟩ : ∃ K, N = K + 1 := ⟨N - 1, by omega⟩
    obtain ⟨y, y1, y2, y3⟩ := ih N (v + 1) (si x 101 (dst + v) (gi x 101 (src + v))) (by omega) (by omega) (fun k hk => by
      rw [gi_si_n (a := 101) (b := src + k) _ _ _ _ (by omega)]
      by_cases z : k = v
      · subst z; rw [gi_si_s]
      · rw [gi_si_n _ _ _ _ (by omega)]; exact h k (by omega))
    refine ⟨y, ?_, onlyR_tr (onlyR_si _ _ (by omega)) y2, fun k hk => by rw [y3 k hk, gi_si_n _ _ _ _ (by omega)]⟩
    rw [← y1]
    show (if (315 : Int32) ≤ nI v then _ else _) = _
    rw [if_neg (show ¬ (315 : Int32) ≤ nI v from nI_ge (b := 315) (by omega) (by decide)), show rf 100 0 = 101 from rfl, show ln 101 = 1260 from rfl, nI_add, nI_add, if_pos (ixb_nI (by omega) (by omega)), if_pos (ixb_nI (by omega) (by omega)), st_eq, ix_nI (by omega), ix_nI (by omega), nI_1]
theorem m_copy {x : St} {src dst : Nat} (h1 : src + 315 ≤ 1260) (h2 : dst + 315 ≤ 1260) (hd : src + 315 ≤ dst ∨ dst + 315 ≤ src) : ∃ y, ff_MO_copy x 100 (nI src) (nI dst) = some ((), y) ∧ onlyR dst x y ∧ ∀ k, k < 315 → reg y dst k = reg x src k :=
  m_copyL h1 h2 hd 315 FU 0 x (by omega) (by unfold FU; omega) (fun k hk => by omega)
