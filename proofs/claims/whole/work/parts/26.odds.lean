/-! odds: rows of ways -/
def Sm (C : Nat → Nat) : Nat → Nat
  | 0 => 0
  | n + 1 => Sm C n + C n
theorem Sm_up_o {C : Nat → Nat} {u k : Nat} : ∀ n, n ≤ u → Sm (upN C u k) n = Sm C n
  | 0, _ => rfl
  | n + 1, h => by
    show Sm (upN C u k) n + upN C u k n = Sm C n + C n
    rw [Sm_up_o n (by omega)]
    unfold upN
    rw [if_neg (by omega)]
theorem Sm_up {C : Nat → Nat} {u a : Nat} : ∀ n, u < n → Sm (upN C u (C u + a)) n = Sm C n + a
  | 0, h => absurd h (Nat.not_lt_zero u)
  | n + 1, h => by
    show Sm (upN C u (C u + a)) n + upN C u (C u + a) n = Sm C n + C n + a
    by_cases q : u = n
    · rw [Sm_up_o n (by omega)]
      unfold upN
      rw [if_pos q.symm, q]; omega
    · rw [Sm_up n (by omega)]
      unfold upN
      rw [if_neg (by omega)]; omega
theorem Sm_ge {C : Nat → Nat} {v : Nat} : ∀ n, v < n → C v ≤ Sm C n
  | 0, h => absurd h (Nat.not_lt_zero v)
  | n + 1, h => by
    show C v ≤ Sm C n + C n
    by_cases q : v = n
    · rw [q]; omega
    · have := Sm_ge (C := C) (v := v) n (by omega)
      omega
def oS (D : Nat → Nat) (wed : Nat) (C : Nat → Nat) (v : Nat) (T : Nat → Nat) : Nat → Nat := upN (upN T (D v) (T (D v) + C v * (10 - wed))) (D v / 2) (upN T (D v) (T (D v) + C v * (10 - wed)) (D v / 2) + C v * wed)
def oV (D : Nat → Nat) (wed : Nat) (C : Nat → Nat) : Nat → Nat → (Nat → Nat) → Nat → Nat
  | _, 0, T => T
  | v, n + 1, T => oV D wed C (v + 1) n (oS D wed C v T)
def oD (D : Nat → Nat) (wed : Nat) (C : Nat → Nat) : Nat → Nat := oV D wed C 0 100 (fun _ => 0)
theorem Sm_z : ∀ n, Sm (fun _ => 0) n = 0
  | 0 => rfl
  | n + 1 => by
    show Sm (fun _ => 0) n + 0 = 0
    rw [Sm_z n]
theorem oS_sm {D : Nat → Nat} {wed v K : Nat} {C T : Nat → Nat} (hD : D v < K) (hw : wed ≤ 10) : Sm (oS D wed C v T) K = Sm T K + 10 * C v := by
  unfold oS
  rw [Sm_up K (by omega), Sm_up K (by omega), Nat.add_assoc, ← Nat.mul_add, Nat.sub_add_cancel hw, Nat.mul_comm]
theorem oV_sm {D : Nat → Nat} {wed K : Nat} {C : Nat → Nat} (hD : ∀ v, v < K → D v < K) (hw : wed ≤ 10) : ∀ (n v : Nat) (T : Nat → Nat), v + n ≤ K → Sm T K = 10 * Sm C v → Sm (oV D wed C v n T) K = 10 * Sm C (v + n)
  | 0, _, _, _, h => h
  | n + 1, v, T, hv, h => by
    have := oV_sm hD hw n (v + 1) (oS D wed C v T) (by omega) (by
      rw [oS_sm (hD v (by omega)) hw, h]
      show _ = 10 * (Sm C v + C v)
      omega)
    rw [show v + 1 + n = v + (n + 1) by omega] at this
    exact this
theorem oD_sm {D : Nat → Nat} {wed : Nat} {C : Nat → Nat} (hD : ∀ v, v < 100 → D v ≤ 99) (hw : wed ≤ 10) : Sm (oD D wed C) 100 = 10 * Sm C 100 := by
  have key : ∀ K, K = 100 → Sm (oV D wed C 0 K (fun _ => 0)) K = 10 * Sm C K := fun K hK => by
    have := oV_sm (D := D) (K := K) (C := C) (fun v hv => by have := hD v (by omega); omega) hw K 0 (fun _ => 0) (by omega) (by rw [Sm_z]; rfl)
    rw [Nat.zero_add] at this
    exact this
  have k2 := key 100 rfl
  rw [oD, k2]
theorem oS_zero {D : Nat → Nat} {wed v : Nat} {C T : Nat → Nat} (h : C v = 0) : oS D wed C v T = T := by
  funext e
  unfold oS upN
  rw [h]
  simp only [Nat.zero_mul, Nat.add_zero]
  by_cases q : e = D v / 2
  · rw [if_pos q]
    by_cases z : D v / 2 = D v
    · rw [if_pos z, q, z]
    · rw [if_neg z, q]
  · rw [if_neg q]
    by_cases z : e = D v
    · rw [if_pos z, z]
    · rw [if_neg z]
def rowL (x : St) (q : Nat) (C : Nat → Nat) : Prop := ∀ e, e < 100 → gl x q e = lN (C e)
theorem rowL_up {x : St} {q u k : Nat} {T : Nat → Nat} (h : rowL x q T) : rowL (sl x q u (lN k)) q (upN T u k) := fun e he => by
  unfold upN
  rw [gl_sl]
  by_cases z : e = u
  · rw [if_pos z, if_pos ⟨rfl, z⟩]
  · rw [if_neg z, if_neg (fun y => z y.2)]; exact h e he
theorem rowL_on {x y : St} {L : List Nat} {q : Nat} {T : Nat → Nat} (h : rowL x q T) (ho : onlyL L x y) (hq : q ∉ L) : rowL y q T := fun e he => by rw [ho.2 _ _ hq]; exact h e he
theorem rowN_onL {x y : St} {L : List Nat} {q : Nat} {T : Nat → Nat} (h : rowN x q T) (ho : onlyL L x y) (hq : q ∉ L) : rowN y q T := fun e he => by rw [ho.1 _ _ hq]; exact h e he
theorem RL_onL {x y : St} {L : List Nat} {s : Nat} {g : Nat → Int32} (h : RL x s g) (ho : onlyL L x y) (hq : ∀ a, a ∈ L → a < s ∨ s + 20 ≤ a) : RL y s g := RL_eq h (fun a k h1 h2 _ => ho.1 a k (fun e => by have := hq a e; omega))
theorem RS_onL {x y : St} {L : List Nat} {s : Nat} {g : Nat → Int32} (hM : ix (g 0) ≤ 6) (h : RS x s g) (ho : onlyL L x y) (hq : ∀ a, a ∈ L → a < s ∨ s + 20 ≤ a) : RS y s g := RS_eq hM h (fun a k h1 h2 => ho.1 a k (fun e => by have := hq a e; omega))
theorem MV_onL {x y : St} {L : List Nat} {b : Nat} {g : Nat → Int32} (h : MV x b g) (ho : onlyL L x y) (h1 : 100 ∉ L) (h2 : 101 ∉ L) : MV y b g := ⟨by rw [ho.1 _ _ h1]; exact h.1, h.2.1, fun k hk => by rw [ho.1 _ _ h2]; exact h.2.2 k hk⟩
theorem c_fillJL {q : Nat} {v : Int64} (hl : ln q < 2 ^ 20) : ∀ (n N j : Nat) (x : St), j + n = ln q → n < N → (∀ i, i < j → gl x q i = v) → ∃ y, ff_AR_fillJ_6 N x q v (nI j) (nI (ln q)) = some ((), y) ∧ onlyL [q] x y ∧ ∀ i, i < ln q → gl y q i = v := by
  intro n
  induction n with
  | zero =>
    intro N j x hj hN h
    obtain ⟨N, rfl⟩ : ∃ K, N = K + 1 := ⟨N - 1, by omega⟩
    refine ⟨x, ?_, onlyL_rf, fun i hi => h i (by omega)⟩
    show (if nI (ln q) ≤ nI j then _ else _) = _
    rw [if_pos (nI_le (by omega) (by omega))]
  | succ n ih =>
    intro N j x hj hN h
    obtain ⟨N, rfl⟩ : ∃ K, N = K + 1 := ⟨N - 1, by omega⟩
    obtain ⟨y, y1, y2, y3⟩ := ih N (j + 1) (sl x q j v) (by omega) (by omega) (fun i hi => by
      rw [gl_sl]
      by_cases z : i = j
      · rw [if_pos ⟨rfl, z⟩]
      · rw [if_neg (fun y => z y.2)]; exact h i (by omega))
    refine ⟨y, ?_, onlyL_tr (onlyL_sl _ _ _ (List.mem_singleton.mpr rfl)) y2, y3⟩
    rw [← y1]
    show (if nI (ln q) ≤ nI j then _ else _) = _
    rw [if_neg (nI_ge (by omega) (by omega)), if_pos (ixb_nI (by omega) (by omega)), st_eq, ix_nI (by omega), nI_1]
theorem c_fillJ {x : St} {q : Nat} {v : Int64} (hl : ln q < 1000) : ∃ y, ff_AR_fillJ x q v = some ((), y) ∧ onlyL [q] x y ∧ ∀ i, i < ln q → gl y q i = v :=
  c_fillJL (by omega) (ln q) FU 0 x (by omega) (by unfold FU; omega) (fun i hi => absurd hi (Nat.not_lt_zero i))
theorem ten_sub {w : Nat} (h : w ≤ 10) : ((10 : Int32) - nI w).toInt64 = lN (10 - w) := by
  rw [show (10 : Int32) = nI 10 from rfl, pk_sub h, nI_l (by omega)]
theorem c_wed10 {wed : Nat} {D C : Nat → Nat} (hC : Sm C 100 < 2 ^ 60) (hD : ∀ v, v < 100 → D v ≤ 99) (hw : wed ≤ 10) : ∀ (n N v : Nat) (T : Nat → Nat) (x : St), v + n = 100 → n < N → rowN x 11 D → rowL x 14 C → rowL x 15 T →
    ∃ y, ff_OU_weddingADay_10 N x 9 (nI wed) (nI v) = ff_OU_weddingADay_91 y 9 ∧ onlyL [15] x y ∧ rowL y 15 (oV D wed C v n T) := by
  intro n
  induction n with
  | zero =>
    intro N v T x hv hN h1 h2 h3
    obtain ⟨N, rfl⟩ : ∃ K, N = K + 1 := ⟨N - 1, by omega⟩
    refine ⟨x, ?_, onlyL_rf, h3⟩
    show (if (100 : Int32) ≤ nI v then _ else _) = _
    rw [if_pos (show (100 : Int32) ≤ nI v from nI_le (a := 100) (by omega) (by omega))]
  | succ n ih =>
    intro N v T x hv hN h1 h2 h3
    obtain ⟨N, rfl⟩ : ∃ K, N = K + 1 := ⟨N - 1, by omega⟩
    have hDv := hD v (by omega)
    have hb : ixb (nI v) 100 = true := ixb_nI (by omega) (by omega)
    have hCv := Sm_ge (C := C) (v := v) 100 (by omega)
    show ∃ y, (if (100 : Int32) ≤ nI v then _ else _) = _ ∧ onlyL [15] x y ∧ rowL y 15 (oV D wed C (v + 1) n (oS D wed C v T))
    rw [if_neg (show ¬ (100 : Int32) ≤ nI v from nI_ge (b := 100) (by omega) (by decide)), show rf 9 1 = 11 from rfl, show rf 9 4 = 14 from rfl, show rf 9 5 = 15 from rfl, show ln 11 = 100 from rfl, show ln 14 = 100 from rfl, show ln 15 = 100 from rfl, if_pos hb, if_pos hb, ix_nI (n := v) (by omega), h2 v (by omega), nI_1]
    by_cases q : C v = 0
    · rw [oS_zero q, q, if_pos (by decide)]
      exact ih N (v + 1) T x (by omega) (by omega) h1 h2 h3
    · have nz : ¬ lg_cmp (lN (C v)) 0 = 0 := fun z => q ((pk_lEQ (b := 0) (by omega) (by decide)).mp ((cmp0 _).mp z))
      have hb1 : ixb (nI (D v)) 100 = true := ixb_nI (by omega) (by omega)
      have hb2 : ixb (nI (D v / 2)) 100 = true := ixb_nI (by omega) (by omega)
      rw [if_neg nz, h1 v (by omega), p_within, bnd_some, show wn (nI (D v)) 0 99 = 1 from wn_yes (a := 0) (b := 99) (by omega) (by omega) (by decide), if_neg (by decide), if_pos hb1, if_pos hb, if_pos hb1, st_eq, half_nI (by omega), if_pos hb2, if_pos hb, if_pos hb2, st_eq, ix_nI (n := D v) (by omega), ix_nI (n := D v / 2) (by omega), ten_sub hw, nI_l (by omega), h2 v (by omega), h3 _ (by omega), lN_mul, lN_add]
      have h4 := rowL_up (u := D v) (k := T (D v) + C v * (10 - wed)) h3
      have h5 : gl (sl x 15 (D v) (lN (T (D v) + C v * (10 - wed)))) 14 v = lN (C v) := by rw [gl_sl, if_neg (by omega)]; exact h2 v (by omega)
      rw [h5, h4 _ (by omega), lN_mul, lN_add]
      have h6 := rowL_up (u := D v / 2) (k := upN T (D v) (T (D v) + C v * (10 - wed)) (D v / 2) + C v * wed) h4
      have hon : onlyL [15] x (sl (sl x 15 (D v) (lN (T (D v) + C v * (10 - wed)))) 15 (D v / 2) (lN (upN T (D v) (T (D v) + C v * (10 - wed)) (D v / 2) + C v * wed))) := onlyL_tr (onlyL_sl _ _ _ (by decide)) (onlyL_sl _ _ _ (by decide))
      obtain ⟨y, y1, y2, y3⟩ := ih N (v + 1) _ _ (by omega) (by omega) (rowN_onL h1 hon (by decide)) (rowL_on h2 hon (by decide)) h6
      exact ⟨y, y1, onlyL_tr hon y2, y3⟩
theorem c_wed {wed : Nat} {D C : Nat → Nat} (hC : Sm C 100 < 2 ^ 60) (hD : ∀ v, v < 100 → D v ≤ 99) (hw : wed ≤ 10) (x : St) (h1 : rowN x 11 D) (h2 : rowL x 14 C) : ∃ y, ff_OU_weddingADay x 9 (nI wed) = some ((), y) ∧ onlyL [14, 15] x y ∧ rowL y 14 (oD D wed C) := by
  obtain ⟨y, y1, y2, y3⟩ := c_fillJ (x := x) (q := 15) (v := 0) (by decide)
  obtain ⟨z, z1, z2, z3⟩ := c_wed10 hC hD hw 100 FU 0 (fun _ => 0) y (by omega) (by unfold FU; omega) (rowN_onL h1 y2 (by decide)) (rowL_on h2 y2 (by decide)) (fun e he => y3 e he)
  refine ⟨cpl z 15 0 14 0 100, ?_, ⟨fun a k ha => ?_, fun a k ha => ?_⟩, fun e he => ?_⟩
  · unfold ff_OU_weddingADay
    rw [show rf 9 5 = 15 from rfl, y1, bnd_some]
    show ff_OU_weddingADay_10 FU y 9 (nI wed) (nI 0) = _
    rw [z1]
    unfold ff_OU_weddingADay_91
    rw [if_pos (by decide), if_pos (by decide), st_eq]; rfl
  · have h15 : a ∉ [15] := fun e => ha (List.mem_cons_of_mem _ e)
    rw [gi_cpl, z2.1 _ _ h15, y2.1 _ _ h15]
  · have h15 : a ∉ [15] := fun e => ha (List.mem_cons_of_mem _ e)
    rw [gl_cpl, if_neg (fun q => ha (by rw [q.1]; decide)), z2.2 _ _ h15, y2.2 _ _ h15]
  · rw [gl_cpl, if_pos ⟨rfl, by omega, by omega⟩, show 0 + (e - 0) = e by omega]
    exact z3 e he
def oL (g : Nat → Int32) (m wed : Nat) : Nat → Nat → (Nat → Nat) → Nat → Nat
  | _, 0, C => C
  | d, n + 1, C => oL g m wed (d + 1) n (oD (fun v => dayN g (-1) m v d) wed C)
theorem oL_sm {g : Nat → Int32} {m wed : Nat} (hw : wed ≤ 10) : ∀ (n d : Nat) (C : Nat → Nat), Sm (oL g m wed d n C) 100 = 10 ^ n * Sm C 100
  | 0, _, C => by show Sm C 100 = 10 ^ 0 * Sm C 100; omega
  | n + 1, d, C => by
    show Sm (oL g m wed (d + 1) n (oD (fun v => dayN g (-1) m v d) wed C)) 100 = _
    rw [oL_sm hw n (d + 1), oD_sm (fun v hv => dayN_le (by omega)) hw, Nat.pow_succ, Nat.mul_assoc]
def suU (C : Nat → Nat) : Nat → Nat → Nat → Nat
  | _, 0, a => a
  | e, n + 1, a => suU C (e + 1) n (a + C e)
theorem suU_eq {C : Nat → Nat} : ∀ (n e a : Nat), suU C e n a + Sm C e = a + Sm C (e + n)
  | 0, _, _ => rfl
  | n + 1, e, a => by
    have := suU_eq (C := C) n (e + 1) (a + C e)
    have h2 : Sm C (e + 1) = Sm C e + C e := rfl
    rw [show e + 1 + n = e + (n + 1) by omega] at this
    show suU C (e + 1) n (a + C e) + Sm C e = _
    omega
def o0 (v0 : Nat) : Nat → Nat := fun e => if e = v0 then 1 else 0
theorem o0_sm {v0 : Nat} : ∀ n, Sm (o0 v0) n = if v0 < n then 1 else 0
  | 0 => by rw [if_neg (by omega)]; rfl
  | n + 1 => by
    show Sm (o0 v0) n + o0 v0 n = _
    rw [o0_sm n]
    unfold o0
    by_cases a : v0 < n
    · rw [if_pos a, if_neg (by omega), if_pos (by omega)]
    · by_cases c : n = v0
      · rw [if_neg a, if_pos c, if_pos (by omega)]
      · rw [if_neg a, if_neg c, if_neg (by omega)]
def hldN (g : Nat → Int32) (m need n wed : Nat) : Nat := suU (oL g m wed (ix (g 5) + 1) n (o0 (GR g (-1) m (ix (g 5))))) need (100 - need) 0
theorem hld_le {g : Nat → Int32} {m need n wed : Nat} (hw : wed ≤ 10) (hn : need ≤ 99) : hldN g m need n wed ≤ 10 ^ n := by
  have h := suU_eq (C := oL g m wed (ix (g 5) + 1) n (o0 (GR g (-1) m (ix (g 5))))) (100 - need) need 0
  rw [show need + (100 - need) = 100 by omega, oL_sm hw, o0_sm] at h
  have : 10 ^ n * (if GR g (-1) m (ix (g 5)) < 100 then 1 else 0) ≤ 10 ^ n := Nat.le_trans (Nat.mul_le_mul_left _ (show (if GR g (-1) m (ix (g 5)) < 100 then 1 else 0) ≤ 1 by split <;> omega)) (Nat.le_of_eq (Nat.mul_one _))
  unfold hldN
  omega
