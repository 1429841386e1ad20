/-! onions -/
def upN (T : Nat → Nat) (u k : Nat) : Nat → Nat := fun j => if j = u then k else T j
def tS (D : Nat → Nat) (need : Nat) (W : Nat → Nat) (v k : Nat) (T : Nat → Nat) : Nat → Nat := if W v = 9999 then T else if min (D v + 5 * k) 99 < need then T else if T (min (D v + 5 * k) 99) ≤ W v + k then T else upN T (min (D v + 5 * k) 99) (W v + k)
def tI (D : Nat → Nat) (need : Nat) (W : Nat → Nat) (v : Nat) : Nat → Nat → (Nat → Nat) → Nat → Nat
  | _, 0, T => T
  | k, n + 1, T => tI D need W v (k + 1) n (tS D need W v k T)
def tV (D : Nat → Nat) (need : Nat) (W : Nat → Nat) : Nat → Nat → (Nat → Nat) → Nat → Nat
  | _, 0, T => T
  | v, n + 1, T => tV D need W (v + 1) n (tI D need W v 0 4 T)
def tD (D : Nat → Nat) (need : Nat) (W : Nat → Nat) : Nat → Nat := tV D need W 0 100 (fun _ => 9999)
def okW (c : Nat) (W : Nat → Nat) : Prop := ∀ v, v < 100 → W v = 9999 ∨ W v ≤ c
theorem tS_ok {D : Nat → Nat} {need c v k : Nat} {W T : Nat → Nat} (hW : okW c W) (hv : v < 100) (hk : k ≤ 3) (hT : okW (c + 3) T) : okW (c + 3) (tS D need W v k T) := by
  unfold tS
  by_cases q : W v = 9999
  · rw [if_pos q]; exact hT
  · rw [if_neg q]
    split
    · exact hT
    · split
      · exact hT
      · intro u hu
        unfold upN
        have := (hW v hv).resolve_left q
        split
        · right; omega
        · exact hT u hu
theorem tI_ok {D : Nat → Nat} {need c v : Nat} {W : Nat → Nat} (hW : okW c W) (hv : v < 100) : ∀ (n k : Nat) (T : Nat → Nat), k + n ≤ 4 → okW (c + 3) T → okW (c + 3) (tI D need W v k n T)
  | 0, _, _, _, h => h
  | n + 1, k, T, hk, h => tI_ok hW hv n (k + 1) _ (by omega) (tS_ok hW hv (by omega) h)
theorem tV_ok {D : Nat → Nat} {need c : Nat} {W : Nat → Nat} (hW : okW c W) : ∀ (n v : Nat) (T : Nat → Nat), v + n ≤ 100 → okW (c + 3) T → okW (c + 3) (tV D need W v n T)
  | 0, _, _, _, h => h
  | n + 1, v, T, hv, h => tV_ok hW n (v + 1) _ (by omega) (tI_ok hW (by omega) 4 0 T (by omega) h)
theorem tD_ok {D : Nat → Nat} {need c : Nat} {W : Nat → Nat} (hW : okW c W) : okW (c + 3) (tD D need W) := tV_ok hW 100 0 _ (by omega) (fun _ _ => Or.inl rfl)
theorem tI_far {D : Nat → Nat} {need v : Nat} {W : Nat → Nat} (h : W v = 9999) : ∀ (n k : Nat) (T : Nat → Nat), tI D need W v k n T = T
  | 0, _, _ => rfl
  | n + 1, k, T => by
    show tI D need W v (k + 1) n (tS D need W v k T) = T
    have : tS D need W v k T = T := by unfold tS; rw [if_pos h]
    rw [this, tI_far h n (k + 1) T]
theorem tV_far {D : Nat → Nat} {need : Nat} {W : Nat → Nat} (h : ∀ v, v < 100 → W v = 9999) : ∀ (n v : Nat) (T : Nat → Nat), v + n ≤ 100 → tV D need W v n T = T
  | 0, _, _, _ => rfl
  | n + 1, v, T, hv => by
    show tV D need W (v + 1) n (tI D need W v 0 4 T) = T
    rw [tI_far (h v (by omega)), tV_far h n (v + 1) T (by omega)]
def cT (k : Nat) : Int32 := if k = 9999 then 1000000 else nI k
theorem cT_n {k : Nat} (h : k < 9999) : cT k = nI k := by unfold cT; rw [if_neg (by omega)]
theorem cT_min {t k : Nat} (ht : t = 9999 ∨ t ≤ 1000) (hk : k ≤ 1000) : imin (cT t) (nI k) = cT (if t ≤ k then t else k) := by
  rcases ht with rfl | h
  · rw [if_neg (by omega), cT_n (k := k) (by omega), show cT 9999 = nI 1000000 from rfl, imin_nI (by decide) (by omega), Nat.min_eq_right (by omega)]
  · rw [cT_n (by omega), imin_nI (by omega) (by omega)]
    by_cases q : t ≤ k
    · rw [if_pos q, cT_n (by omega), Nat.min_eq_left q]
    · rw [if_neg q, cT_n (by omega), Nat.min_eq_right (by omega)]
def rowT (x : St) (q : Nat) (T : Nat → Nat) : Prop := ∀ e, e < 100 → gi x q e = cT (T e)
def rowN (x : St) (q : Nat) (T : Nat → Nat) : Prop := ∀ e, e < 100 → gi x q e = nI (T e)
theorem rowT_on {x y : St} {q p : Nat} {T : Nat → Nat} (h : rowT x q T) (ho : only p x y) (hq : q ≠ p) : rowT y q T := fun e he => by rw [ho.1 _ _ hq]; exact h e he
theorem rowN_on {x y : St} {q p : Nat} {T : Nat → Nat} (h : rowN x q T) (ho : only p x y) (hq : q ≠ p) : rowN y q T := fun e he => by rw [ho.1 _ _ hq]; exact h e he
theorem rowT_up {x : St} {q u k : Nat} {T : Nat → Nat} (h : rowT x q T) : rowT (si x q u (cT k)) q (upN T u k) := fun e he => by
  unfold upN
  by_cases z : e = u
  · rw [if_pos z, z]; exact gi_si_s _ _ _ _
  · rw [if_neg z, gi_si_n _ _ _ _ (by omega)]; exact h e he
theorem rowN_up {x : St} {q u k : Nat} {T : Nat → Nat} (h : rowN x q T) : rowN (si x q u (nI k)) q (upN T u k) := fun e he => by
  unfold upN
  by_cases z : e = u
  · rw [if_pos z, z]; exact gi_si_s _ _ _ _
  · rw [if_neg z, gi_si_n _ _ _ _ (by omega)]; exact h e he
theorem c_we30 {need c v : Nat} {D W : Nat → Nat} (hW : okW c W) (hc : c ≤ 300) (hv : v < 100) (hD : D v ≤ 99) (hn : need ≤ 99) (hf : ¬ W v = 9999) (K : St → Nat → Int32 → Int32 → Option (Unit × St)) : ∀ (n N k : Nat) (T : Nat → Nat) (x : St), k + n = 4 → n < N → okW (c + 3) T → rowN x 11 D → rowT x 12 W → rowT x 13 T →
    ∃ y, ff_OU_weepADay_30 K N x 9 (nI need) (nI v) (nI k) = K y 9 (nI need) (nI (v + 1)) ∧ only 13 x y ∧ rowT y 13 (tI D need W v k n T) := by
  have hW2 := (hW v hv).resolve_left hf
  intro n
  induction n with
  | zero =>
    intro N k T x hk hN hT h1 h2 h3
    obtain ⟨N, rfl⟩ : ∃ K, N = K + 1 := ⟨N - 1, by omega⟩
    refine ⟨x, ?_, only_rf, h3⟩
    show (if (3 : Int32) < nI k then _ else _) = _
    rw [if_pos (show (3 : Int32) < nI k from nI_lt (a := 3) (by omega) (by omega)), nI_1]
  | succ n ih =>
    intro N k T x hk hN hT h1 h2 h3
    obtain ⟨N, rfl⟩ : ∃ K, N = K + 1 := ⟨N - 1, by omega⟩
    have eM : ff_OU_weepADay_30 K (N + 1) x 9 (nI need) (nI v) (nI k) = if wn (nI (min (D v + 5 * k) 99)) (nI need) 99 = 0 then ff_OU_weepADay_30 K N x 9 (nI need) (nI v) (nI (k + 1)) else ff_OU_weepADay_30 K N (si x 13 (min (D v + 5 * k) 99) (cT (if T (min (D v + 5 * k) 99) ≤ W v + k then T (min (D v + 5 * k) 99) else W v + k))) 9 (nI need) (nI v) (nI (k + 1)) := by
      show (if (3 : Int32) < nI k then _ else _) = _
      rw [if_neg (show ¬ (3 : Int32) < nI k from nI_nlt (b := k) (a := 3) (by omega) (by decide)), show rf 9 1 = 11 from rfl, show rf 9 2 = 12 from rfl, show rf 9 3 = 13 from rfl, show ln 11 = 100 from rfl, show ln 12 = 100 from rfl, show ln 13 = 100 from rfl, if_pos (ixb_nI (by omega) (by omega)), li_eq, ix_nI (by omega), h1 v hv, show (nI k * 5 : Int32) = nI (k * 5) from pk_mul k 5, nI_add, show (99 : Int32) = nI 99 from rfl, imin_nI (by omega) (by decide), show k * 5 = 5 * k by omega, p_within, bnd_some, nI_1]
      by_cases q : wn (nI (min (D v + 5 * k) 99)) (nI need) (nI 99) = 0
      · rw [if_pos q, if_pos q]
      · rw [if_neg q, if_neg q, if_pos (ixb_nI (by omega) (by omega)), if_pos (ixb_nI (by omega) (by omega)), if_pos (ixb_nI (by omega) (by omega)), st_eq, ix_nI (by omega), h2 v hv, h3 _ (by omega), cT_n (k := W v) (by omega), nI_add, cT_min (by rcases hT (min (D v + 5 * k) 99) (by omega) with a | a; exact Or.inl a; right; omega) (by omega)]
    rw [eM]
    show ∃ y, _ ∧ only 13 x y ∧ rowT y 13 (tI D need W v (k + 1) n (tS D need W v k T))
    have hT' := tS_ok (D := D) (need := need) hW hv (k := k) (by omega) hT
    by_cases q : min (D v + 5 * k) 99 < need
    · have e1 : wn (nI (min (D v + 5 * k) 99)) (nI need) 99 = 0 := by unfold wn; rw [if_pos (nI_lt q (by omega))]
      have e2 : tS D need W v k T = T := by unfold tS; rw [if_neg hf, if_pos q]
      rw [e2] at hT' ⊢
      rw [if_pos e1]
      exact ih N (k + 1) T x (by omega) (by omega) hT' h1 h2 h3
    · have e1 : wn (nI (min (D v + 5 * k) 99)) (nI need) 99 = 1 := wn_yes (b := 99) (by omega) (by omega) (by decide)
      rw [e1, if_neg (by decide)]
      have hon := only_si 13 (min (D v + 5 * k) 99) (cT (if T (min (D v + 5 * k) 99) ≤ W v + k then T (min (D v + 5 * k) 99) else W v + k)) x
      obtain ⟨y, y1, y2, y3⟩ := ih N (k + 1) (tS D need W v k T) _ (by omega) (by omega) hT' (rowN_on h1 hon (by decide)) (rowT_on h2 hon (by decide)) (by
        have h5 := rowT_up (u := min (D v + 5 * k) 99) (k := if T (min (D v + 5 * k) 99) ≤ W v + k then T (min (D v + 5 * k) 99) else W v + k) h3
        have e2 : tS D need W v k T = upN T (min (D v + 5 * k) 99) (if T (min (D v + 5 * k) 99) ≤ W v + k then T (min (D v + 5 * k) 99) else W v + k) := by
          unfold tS
          rw [if_neg hf, if_neg q]
          by_cases z : T (min (D v + 5 * k) 99) ≤ W v + k
          · rw [if_pos z, if_pos z]
            funext e
            unfold upN
            by_cases y : e = min (D v + 5 * k) 99
            · rw [if_pos y, y]
            · rw [if_neg y]
          · rw [if_neg z, if_neg z]
        rw [e2]
        exact h5)
      exact ⟨y, y1, only_tr hon y2, y3⟩
theorem c_we11 {need c : Nat} {D W : Nat → Nat} (hW : okW c W) (hc : c ≤ 300) (hD : ∀ v, v < 100 → D v ≤ 99) (hn : need ≤ 99) : ∀ (n N v : Nat) (T : Nat → Nat) (x : St), v + n = 100 → n < N → okW (c + 3) T → rowN x 11 D → rowT x 12 W → rowT x 13 T →
    ∃ y, ff_OU_weepADay_11 N x 9 (nI need) (nI v) = ff_OU_weepADay_100 y 9 ∧ only 13 x y ∧ rowT y 13 (tV D need W v n T) := by
  intro n
  induction n with
  | zero =>
    intro N v T x hv hN hT h1 h2 h3
    obtain ⟨N, rfl⟩ : ∃ K, N = K + 1 := ⟨N - 1, by omega⟩
    refine ⟨x, ?_, only_rf, h3⟩
    show (if (100 : Int32) ≤ nI v then _ else _) = _
    rw [if_pos (show (100 : Int32) ≤ nI v from nI_le (a := 100) (by omega) (by omega))]
  | succ n ih =>
    intro N v T x hv hN hT h1 h2 h3
    obtain ⟨N, rfl⟩ : ∃ K, N = K + 1 := ⟨N - 1, by omega⟩
    show ∃ y, _ ∧ only 13 x y ∧ rowT y 13 (tV D need W (v + 1) n (tI D need W v 0 4 T))
    have hT' := tI_ok (D := D) (need := need) hW (v := v) (by omega) 4 0 T (by omega) hT
    have eM : ff_OU_weepADay_11 (N + 1) x 9 (nI need) (nI v) = if W v = 9999 then ff_OU_weepADay_11 N x 9 (nI need) (nI (v + 1)) else ff_OU_weepADay_30 (ff_OU_weepADay_11 N) FU x 9 (nI need) (nI v) (nI 0) := by
      show (if (100 : Int32) ≤ nI v then _ else _) = _
      rw [if_neg (show ¬ (100 : Int32) ≤ nI v from nI_ge (b := 100) (by omega) (by decide)), show rf 9 2 = 12 from rfl, show ln 12 = 100 from rfl, if_pos (ixb_nI (by omega) (by omega)), ix_nI (by omega), h2 v (by omega), nI_1]
      by_cases q : W v = 9999
      · rw [if_pos q, q, if_pos (by decide)]
      · have := (hW v (by omega)).resolve_left q
        rw [if_neg q, cT_n (by omega), if_neg (show ¬ nI (W v) = 1000000 from nI_eqn (b := 1000000) (by omega) (by decide) (by omega))]; rfl
    rw [eM]
    by_cases q : W v = 9999
    · rw [if_pos q]
      rw [tI_far q] at hT' ⊢
      exact ih N (v + 1) T x (by omega) (by omega) hT' h1 h2 h3
    · rw [if_neg q]
      obtain ⟨y, y1, y2, y3⟩ := c_we30 (v := v) hW hc (by omega) (hD v (by omega)) hn q (ff_OU_weepADay_11 N) 4 FU 0 T x (by omega) (by unfold FU; omega) hT h1 h2 h3
      obtain ⟨z, z1, z2, z3⟩ := ih N (v + 1) _ y (by omega) (by omega) hT' (rowN_on h1 y2 (by decide)) (rowT_on h2 y2 (by decide)) y3
      exact ⟨z, by rw [y1]; exact z1, only_tr y2 z2, z3⟩
theorem c_weep {need c : Nat} {D W : Nat → Nat} (hW : okW c W) (hc : c ≤ 300) (hD : ∀ v, v < 100 → D v ≤ 99) (hn : need ≤ 99) (x : St) (h1 : rowN x 11 D) (h2 : rowT x 12 W) : ∃ y, ff_OU_weepADay x 9 (nI need) = some ((), y) ∧ onlyL [12, 13] x y ∧ rowT y 12 (tD D need W) := by
  obtain ⟨y, y1, y2, y3⟩ := c_fillI (x := x) (q := 13) (v := 1000000) (by decide)
  obtain ⟨z, z1, z2, z3⟩ := c_we11 hW hc hD hn 100 FU 0 (fun _ => 9999) y (by omega) (by unfold FU; omega) (fun _ _ => Or.inl rfl) (rowN_on h1 y2 (by decide)) (rowT_on h2 y2 (by decide)) (fun e he => y3 e he)
  refine ⟨cpi z 13 0 12 0 100, ?_, ⟨fun a k ha => ?_, fun a k ha => ?_⟩, fun e he => ?_⟩
  · unfold ff_OU_weepADay
    rw [show rf 9 3 = 13 from rfl, y1, bnd_some]
    show ff_OU_weepADay_11 FU y 9 (nI need) (nI 0) = _
    rw [z1]
    unfold ff_OU_weepADay_100
    rw [if_pos (by decide), if_pos (by decide), st_eq]; rfl
  · have h12 : a ≠ 12 := fun e => ha (by rw [e]; decide)
    have h13 : a ≠ 13 := fun e => ha (by rw [e]; decide)
    rw [gi_cpi, if_neg (fun q => h12 q.1), z2.1 _ _ h13, y2.1 _ _ h13]
  · rw [gl_cpi, z2.2, y2.2]
  · rw [gi_cpi, if_pos ⟨rfl, by omega, by omega⟩, show 0 + (e - 0) = e by omega]
    exact z3 e he
/-! the same, by the reference -/
theorem m_te167 {b need c v : Nat} {D W : Nat → Nat} (hW : okW c W) (hc : c ≤ 300) (hv : v < 100) (hD : D v ≤ 99) (hn : need ≤ 99) (m un d : Int32) (K1 : St → Nat → Int32 → Int32 → Int32 → Int32 → Option (Int32 × St)) (K : St → Nat → Int32 → Int32 → Int32 → Int32 → Int32 → Option (Int32 × St)) : ∀ (n N k : Nat) (T : Nat → Nat) (x : St), k + n = 4 → n < N → okW (c + 3) T → rowN x 107 W → rowN x 108 T →
    ∃ y, ff_MO_tears_167 K1 K N x 100 m (nI need) un d (nI v) (nI (min (D v + 5 * k) 99)) (nI k) = K y 100 m (nI need) un d (nI (v + 1)) ∧ only 108 x y ∧ rowN y 108 (tI D need W v k n T) := by
  intro n
  induction n with
  | zero =>
    intro N k T x hk hN hT h2 h3
    obtain ⟨N, rfl⟩ : ∃ K, N = K + 1 := ⟨N - 1, by omega⟩
    refine ⟨x, ?_, only_rf, h3⟩
    show (if (4 : Int32) ≤ nI k then _ else _) = _
    rw [if_pos (show (4 : Int32) ≤ nI k from nI_le (a := 4) (by omega) (by omega)), nI_1]
  | succ n ih =>
    intro N k T x hk hN hT h2 h3
    obtain ⟨N, rfl⟩ : ∃ K, N = K + 1 := ⟨N - 1, by omega⟩
    have hT' := tS_ok (D := D) (need := need) hW hv (k := k) (by omega) hT
    have mo : ∀ z : St, ff_MO_more z (nI (min (D v + 5 * k) 99)) = some (nI (min (D v + 5 * (k + 1)) 99), z) := fun z => by
      rw [m_more z (by omega), show min (min (D v + 5 * k) 99 + 5) 99 = min (D v + 5 * (k + 1)) 99 by omega]
    show ∃ y, (if (4 : Int32) ≤ nI k then _ else _) = _ ∧ only 108 x y ∧ rowN y 108 (tI D need W v (k + 1) n (tS D need W v k T))
    rw [if_neg (show ¬ (4 : Int32) ≤ nI k from nI_ge (b := 4) (by omega) (by decide)), show rf 100 16 = 107 from rfl, show rf 100 17 = 108 from rfl, show ln 107 = 100 from rfl, show ln 108 = 100 from rfl, if_pos (ixb_nI (by omega) (by omega)), ix_nI (by omega), h2 v hv, nI_1]
    have hu : ixb (nI (min (D v + 5 * k) 99)) 100 = true := ixb_nI (by omega) (by omega)
    by_cases q : W v = 9999
    · have e2 : tS D need W v k T = T := by unfold tS; rw [if_pos q]
      rw [e2] at hT' ⊢
      rw [q, if_pos (by decide), mo, bnd_some]
      exact ih N (k + 1) T x (by omega) (by omega) hT' h2 h3
    · have hW2 := (hW v hv).resolve_left q
      rw [if_neg (show ¬ (9999 : Int32) ≤ nI (W v) from nI_ge (b := 9999) (by omega) (by decide))]
      by_cases q2 : min (D v + 5 * k) 99 < need
      · have e2 : tS D need W v k T = T := by unfold tS; rw [if_neg q, if_pos q2]
        rw [e2] at hT' ⊢
        rw [if_pos (nI_lt q2 (by omega)), mo, bnd_some]
        exact ih N (k + 1) T x (by omega) (by omega) hT' h2 h3
      · rw [if_neg (nI_nlt (by omega) (by omega)), if_pos (ixb_nI (by omega) (by omega)), if_pos hu, ix_nI (n := min (D v + 5 * k) 99) (by omega), h3 _ (by omega), nI_add]
        have hT2 := hT (min (D v + 5 * k) 99) (by omega)
        by_cases q3 : T (min (D v + 5 * k) 99) ≤ W v + k
        · have e2 : tS D need W v k T = T := by unfold tS; rw [if_neg q, if_neg q2, if_pos q3]
          rw [e2] at hT' ⊢
          rw [if_pos (nI_le q3 (by omega)), mo, bnd_some]
          exact ih N (k + 1) T x (by omega) (by omega) hT' h2 h3
        · have e2 : tS D need W v k T = upN T (min (D v + 5 * k) 99) (W v + k) := by unfold tS; rw [if_neg q, if_neg q2, if_neg q3]
          rw [e2] at hT' ⊢
          rw [if_neg (nI_ge (by omega) (by omega)), if_pos (ixb_nI (by omega) (by omega)), if_pos hu, st_eq, mo, bnd_some]
          have hon := only_si 108 (min (D v + 5 * k) 99) (nI (W v + k)) x
          obtain ⟨y, y1, y2, y3⟩ := ih N (k + 1) _ (si x 108 (min (D v + 5 * k) 99) (nI (W v + k))) (by omega) (by omega) hT' (rowN_on h2 hon (by decide)) (rowN_up h3)
          exact ⟨y, y1, only_tr hon y2, y3⟩
theorem m_te251 {b : Nat} (m need un d : Int32) (K1 : St → Nat → Int32 → Int32 → Int32 → Int32 → Option (Int32 × St)) (T : Nat → Nat) : ∀ (n N e : Nat) (x : St), e + n = 100 → n < N → rowN x 108 T → (∀ i, i < e → gi x 107 i = nI (T i)) →
    ∃ y, ff_MO_tears_251 K1 N x 100 m need un d (nI e) = K1 y 100 m need un (d + 1) ∧ only 107 x y ∧ rowN y 107 T := by
  intro n
  induction n with
  | zero =>
    intro N e x he hN h1 h2
    obtain ⟨N, rfl⟩ : ∃ K, N = K + 1 := ⟨N - 1, by omega⟩
    refine ⟨x, ?_, only_rf, fun i hi => h2 i (by omega)⟩
    show (if (99 : Int32) < nI e then _ else _) = _
    rw [if_pos (show (99 : Int32) < nI e from nI_lt (a := 99) (by omega) (by omega))]
  | succ n ih =>
    intro N e x he hN h1 h2
    obtain ⟨N, rfl⟩ : ∃ K, N = K + 1 := ⟨N - 1, by omega⟩
    have hon := only_si 107 e (nI (T e)) x
    obtain ⟨y, y1, y2, y3⟩ := ih N (e + 1) (si x 107 e (nI (T e))) (by omega) (by omega) (rowN_on h1 hon (by decide)) (fun i hi => by
      by_cases q : i = e
      · subst q; exact gi_si_s _ _ _ _
      · rw [gi_si_n _ _ _ _ (by omega)]; exact h2 i (by omega))
    refine ⟨y, ?_, only_tr hon y2, y3⟩
    rw [← y1]
    show (if (99 : Int32) < nI e then _ else _) = _
    rw [if_neg (show ¬ (99 : Int32) < nI e from nI_nlt (b := e) (a := 99) (by omega) (by decide)), show rf 100 16 = 107 from rfl, show rf 100 17 = 108 from rfl, show ln 107 = 100 from rfl, show ln 108 = 100 from rfl, if_pos (ixb_nI (by omega) (by omega)), if_pos (ixb_nI (by omega) (by omega)), st_eq, ix_nI (by omega), h1 e (by omega), nI_1]
theorem m_te146 {b need c m d : Nat} {g : Nat → Int32} {W : Nat → Nat} (hI : InvG g) (hm : m < ix (g 0)) (hd : d ≤ 99) (hW : okW c W) (hc : c ≤ 300) (hn : need ≤ 99) (un : Int32) (K1 : St → Nat → Int32 → Int32 → Int32 → Int32 → Option (Int32 × St)) : ∀ (n N v : Nat) (T : Nat → Nat) (x : St), v + n = 100 → n < N → MV x b g → gi x 100 13 = -1 → okW (c + 3) T → rowN x 107 W → rowN x 108 T →
    ∃ y, ff_MO_tears_146 K1 N x 100 (nI m) (nI need) un (nI d) (nI v) = K1 y 100 (nI m) (nI need) un (nI (d + 1)) ∧ onlyL [107, 108] x y ∧ rowN y 107 (tV (fun v => dayN g (-1) m v d) need W v n T) := by
  have hM2 := hI.1.1.2
  intro n
  induction n with
  | zero =>
    intro N v T x hv hN hV hw hT h2 h3
    obtain ⟨N, rfl⟩ : ∃ K, N = K + 1 := ⟨N - 1, by omega⟩
    obtain ⟨y, y1, y2, y3⟩ := m_te251 (b := b) (nI m) (nI need) un (nI d) K1 T 100 FU 0 x (by omega) (by unfold FU; omega) h3 (fun i hi => by omega)
    refine ⟨y, ?_, onlyL_of y2 (by decide), y3⟩
    rw [← nI_1, ← y1]
    show (if (99 : Int32) < nI v then _ else _) = _
    rw [if_pos (show (99 : Int32) < nI v from nI_lt (a := 99) (by omega) (by omega))]; rfl
  | succ n ih =>
    intro N v T x hv hN hV hw hT h2 h3
    obtain ⟨N, rfl⟩ : ∃ K, N = K + 1 := ⟨N - 1, by omega⟩
    have hD : dayN g (-1) m v d ≤ 99 := dayN_le (by omega)
    have hT' := tI_ok (D := fun v => dayN g (-1) m v d) (need := need) hW (v := v) (by omega) 4 0 T (by omega) hT
    obtain ⟨y, y1, y2, y3⟩ := m_te167 (b := b) (D := fun v => dayN g (-1) m v d) (v := v) hW hc (by omega) hD hn (nI m) un (nI d) K1 (ff_MO_tears_146 K1 N) 4 FU 0 T x (by omega) (by unfold FU; omega) hT h2 h3
    obtain ⟨z, z1, z2, z3⟩ := ih N (v + 1) _ y (by omega) (by omega) (MV_only hV y2 (by decide) (by decide)) (by rw [y2.1 _ _ (by decide)]; exact hw) hT' (rowN_on h2 y2 (by decide)) y3
    refine ⟨z, ?_, onlyL_tr (onlyL_of y2 (by decide)) z2, z3⟩
    rw [← z1, ← y1]
    have h0 : min (dayN g (-1) m v d + 5 * 0) 99 = dayN g (-1) m v d := by omega
    show (if (99 : Int32) < nI v then _ else _) = ff_MO_tears_167 K1 (ff_MO_tears_146 K1 N) FU x 100 (nI m) (nI need) un (nI d) (nI v) (nI (min (dayN g (-1) m v d + 5 * 0) 99)) (nI 0)
    rw [h0, if_neg (show ¬ (99 : Int32) < nI v from nI_nlt (b := v) (a := 99) (by omega) (by decide)), m_onDay hV hI.1.2.2.2.1 (fun i hi => (hI.2.2.2.2.1 i hi).1) (hI.2.1 m hm).1 hw (by omega) hd (by omega), bnd_some]; rfl
theorem m_te120 (m need un d : Int32) (K1 : St → Nat → Int32 → Int32 → Int32 → Int32 → Option (Int32 × St)) : ∀ (n N e : Nat) (x : St), e + n = 100 → n < N → (∀ i, i < e → gi x 108 i = nI 9999) →
    ∃ y, ff_MO_tears_120 K1 N x 100 m need un d (nI e) = ff_MO_tears_146 K1 FU y 100 m need un d (nI 0) ∧ only 108 x y ∧ rowN y 108 (fun _ => 9999) := by
  intro n
  induction n with
  | zero =>
    intro N e x he hN h2
    obtain ⟨N, rfl⟩ : ∃ K, N = K + 1 := ⟨N - 1, by omega⟩
    refine ⟨x, ?_, only_rf, fun i hi => h2 i (by omega)⟩
    show (if (99 : Int32) < nI e then _ else _) = _
    rw [if_pos (show (99 : Int32) < nI e from nI_lt (a := 99) (by omega) (by omega))]; rfl
  | succ n ih =>
    intro N e x he hN h2
    obtain ⟨N, rfl⟩ : ∃ K, N = K + 1 := ⟨N - 1, by omega⟩
    have hon := only_si 108 e (nI 9999) x
    obtain ⟨y, y1, y2, y3⟩ := ih N (e + 1) (si x 108 e (nI 9999)) (by omega) (by omega) (fun i hi => by
      by_cases q : i = e
      · subst q; exact gi_si_s _ _ _ _
      · rw [gi_si_n _ _ _ _ (by omega)]; exact h2 i (by omega))
    refine ⟨y, ?_, only_tr hon y2, y3⟩
    rw [← y1]
    show (if (99 : Int32) < nI e then _ else _) = _
    rw [if_neg (show ¬ (99 : Int32) < nI e from nI_nlt (b := e) (a := 99) (by omega) (by decide)), show rf 100 17 = 108 from rfl, show ln 108 = 100 from rfl, if_pos (ixb_nI (by omega) (by omega)), st_eq, ix_nI (by omega), nI_1]; rfl
