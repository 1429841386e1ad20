/-! bits of small sets -/
theorem fa_or (a b : Nat) : nI a ||| nI b = nI (a ||| b) := by
  apply Int32.toBitVec_inj.1
  show BitVec.ofNat 32 a ||| BitVec.ofNat 32 b = BitVec.ofNat 32 (a ||| b)
  apply BitVec.eq_of_getLsbD_eq
  intro i hi
  simp [hi]
theorem sh_nI {j : Nat} (hj : j < 7) : ((1 : Int32) <<< (nI j &&& 31)) = nI (2 ^ j) := (by decide +kernel : ∀ j, j < 7 → ((1 : Int32) <<< (nI j &&& 31)) = nI (2 ^ j)) j hj
theorem bt_nI {n j : Nat} (hn : n < 2 ^ 31) (hj : j < 7) : ((nI n >>> (nI j &&& 31)) &&& 1) = nI (n / 2 ^ j % 2) := by
  rw [pk_shrN hn (nI j &&& 31) j ((by decide +kernel : ∀ j, j < 7 → ((nI j &&& 31).toBitVec.smod 32).toNat = j) j hj), pk_andN (by have := Nat.div_le_self n (2 ^ j); omega) 1 (by decide)]
def bN (n j : Nat) : Bool := decide (n / 2 ^ j % 2 = 1)
theorem bt_1 {n j : Nat} (hn : n < 2 ^ 31) (hj : j < 7) : ((nI n >>> (nI j &&& 31)) &&& 1) = 1 ↔ bN n j = true := by
  rw [bt_nI hn hj, show (1 : Int32) = nI 1 from rfl, nI_eq (by omega) (by decide)]
  unfold bN
  rw [decide_eq_true_eq]
theorem bt_0 {n j : Nat} (hn : n < 2 ^ 31) (hj : j < 7) : ((nI n >>> (nI j &&& 31)) &&& 1) = 0 ↔ bN n j = false := by
  rw [bt_nI hn hj, show (0 : Int32) = nI 0 from rfl, nI_eq (by omega) (by decide)]
  unfold bN
  rw [decide_eq_false_iff_not]
  omega
theorem or_add {v j : Nat} (hv : v < 2 ^ j) : nI v ||| nI (2 ^ j) = nI (v + 2 ^ j) := by
  have := Nat.two_pow_add_eq_or_of_lt hv 1
  rw [fa_or, Nat.or_comm]
  rw [Nat.mul_one] at this
  rw [← this, Nat.add_comm]
/-! the class: openings -/
def stF (f : Nat → Nat) (x : St) (q1 : Nat) (o : Option Nat) : Prop := ln q1 = 100 ∧ (∀ e, e < 100 → f e ≤ 99) ∧ ((o = none ∧ ∀ e, e < 100 → gi x q1 e = nI (f e)) ∨ ∃ (q2 : Nat) (f1 f2 : Nat → Nat), o = some q2 ∧ ln q2 = 100 ∧ ∀ e, e < 100 → gi x q1 e = nI (f1 e) ∧ gi x q2 e = nI (f2 e) ∧ f1 e ≤ 99 ∧ f2 e ≤ 99 ∧ f e = (f1 e + f2 e) / 2)
theorem c_fwL {x : St} {q1 load en : Nat} {o : Option Nat} {f : Nat → Nat} (hf : stF f x q1 o) (hl : load ≤ 99) (he : en ≤ 99) : ∀ (n N d : Nat), d + n = en + 1 → n < N → ff_SH_firstWeakDay_13 N x q1 o (nI load) (nI en) (nI d) = some (nI (fw f load d n), x) := by
  obtain ⟨l1, hle, hc⟩ := hf
  intro n
  induction n with
  | zero =>
    intro N d hd hN
    obtain ⟨N, rfl⟩ : ∃ K, N = K + 1 := ⟨N - 1, by omega⟩
    show (if nI en < nI d then some (nI en + 1, x) else _) = _
    rw [if_pos (nI_lt (by omega) (by omega)), nI_1, ← hd]; rfl
  | succ n ih =>
    intro N d hd hN
    obtain ⟨N, rfl⟩ : ∃ K, N = K + 1 := ⟨N - 1, by omega⟩
    have key : ff_SH_firstWeakDay_49 (ff_SH_firstWeakDay_13 N) x q1 o (nI load) (nI en) (nI d) (nI (f d)) = some (nI (fw f load d (n + 1)), x) := by
      have h0 := hle d (by omega)
      unfold ff_SH_firstWeakDay_49 fw
      by_cases h : load ≤ f d
      · rw [if_pos (nI_le h (by omega)), if_pos h, nI_1, ih N (d + 1) (by omega) (by omega)]
      · rw [if_neg (nI_ge (by omega) (by omega)), if_neg h]
    show (if nI en < nI d then _ else (if (100 : Int32) ≤ nI d then _ else qc o _ _)) = _
    rw [if_neg (nI_nlt (by omega) (by omega)), if_neg (show ¬ (100 : Int32) ≤ nI d from nI_ge (b := 100) (by omega) (by decide))]
    rcases hc with ⟨rfl, h1⟩ | ⟨q2, f1, f2, rfl, l2, h2⟩
    · rw [qc_n, l1, if_pos (ixb_nI (by omega) (by omega)), ix_nI (by omega), h1 d (by omega)]
      exact key
    · obtain ⟨e1, e2, e3, e4, e5⟩ := h2 d (by omega)
      rw [qc_s, l1, l2, if_pos (ixb_nI (by omega) (by omega)), if_pos (ixb_nI (by omega) (by omega)), ix_nI (by omega), e1, e2, nI_add, half_nI (by omega), ← e5]
      exact key
theorem c_fw {x : St} {q1 load d en : Nat} {o : Option Nat} {f : Nat → Nat} (hf : stF f x q1 o) (hl : load ≤ 99) (he : en ≤ 99) (hd : d ≤ en + 1) : ff_SH_firstWeakDay x (some q1) o (nI load) (nI d) (nI en) = some (nI (fw f load d (en + 1 - d)), x) := by
  unfold ff_SH_firstWeakDay
  rw [qc_s, show imax (nI d) 0 = nI d from by rw [show (0 : Int32) = nI 0 from rfl, imax_nI (by omega) (by decide), Nat.max_eq_left (by omega)], c_fwL hf hl he (en + 1 - d) FU d (by omega) (by unfold FU; omega)]
theorem c_boils {x : St} {s j k : Nat} {g : Nat → Int32} (h : RL x s g) (hj : j < 6) (hk : k < 3) (hj2 : j < ix (g 1)) : gi x (s + 18) (j * 3 + k) = g (26 + 4 * j + k) := by
  rw [show j * 3 + k = 3 * j + k by omega, h.2.2.2.1 j k hj hk, if_pos hj2]
theorem c_hasJ {x : St} {s j : Nat} {g : Nat → Int32} (hs : sp s) (hI : InvG g) (h : RL x s g) (hj : j < ix (g 1)) : ff_LE_has x (rf s 1) (nI j) = some (1, x) := by
  have hJ := hI.1.2.1
  have hJ2 := hJ.2
  rw [p_has, (sp_rf hs).2.1, h.2.1.2.1, hJ.1, hs_yes hj (by omega)]
theorem c_boiledOn {x : St} {s j : Nat} {g : Nat → Int32} (hs : sp s) (hI : InvG g) (h : RL x s g) (hj : j < ix (g 1)) : ff_SH_boiledOn x s (nI j) = some (g (26 + 4 * j), x) := by
  have hJ2 := hI.1.2.1.2
  unfold ff_SH_boiledOn
  rw [c_hasJ hs hI h hj, bnd_some, if_neg (by decide), (sp_rf hs).2.2.2.2.2.2.1, (sp_ln hs).2.2.2.2.2.2.1, show nI j * 3 = nI (j * 3) from pk_mul j 3, if_pos (ixb_nI (by omega) (by omega)), ix_nI (by omega)]
  have e : gi x (s + 18) (j * 3) = g (26 + 4 * j) := c_boils h (j := j) (k := 0) (by omega) (by omega) hj
  rw [e]
theorem c_firstBoiler {x : St} {s j : Nat} {g : Nat → Int32} (hs : sp s) (hI : InvG g) (h : RL x s g) (hj : j < ix (g 1)) : ff_SH_firstBoiler x s (nI j) = some (g (27 + 4 * j), x) := by
  have hJ2 := hI.1.2.1.2
  unfold ff_SH_firstBoiler
  rw [c_hasJ hs hI h hj, bnd_some, if_neg (by decide), (sp_rf hs).2.2.2.2.2.2.1, (sp_ln hs).2.2.2.2.2.2.1, show nI j * 3 = nI (j * 3) from pk_mul j 3, nI_1, if_pos (ixb_nI (by omega) (by omega)), ix_nI (by omega), c_boils h (by omega) (by omega) hj, show 26 + 4 * j + 1 = 27 + 4 * j by omega]
theorem c_secondBoiler {x : St} {s j : Nat} {g : Nat → Int32} (hs : sp s) (hI : InvG g) (h : RL x s g) (hj : j < ix (g 1)) : ff_SH_secondBoiler x s (nI j) = some (g (28 + 4 * j), x) := by
  have hJ2 := hI.1.2.1.2
  unfold ff_SH_secondBoiler
  rw [c_hasJ hs hI h hj, bnd_some, if_neg (by decide), (sp_rf hs).2.2.2.2.2.2.1, (sp_ln hs).2.2.2.2.2.2.1, show nI j * 3 = nI (j * 3) from pk_mul j 3, show nI (j * 3) + 2 = nI (j * 3 + 2) from nI_add _ 2, if_pos (ixb_nI (by omega) (by omega)), ix_nI (by omega), c_boils h (by omega) (by omega) hj, show 26 + 4 * j + 2 = 28 + 4 * j by omega]
theorem c_griefsOf {x : St} {s m : Nat} {g : Nat → Int32} (hs : sp s) (hI : InvG g) (h : RL x s g) (hm : m < ix (g 0)) : ff_SH_griefsOf x s (nI m) = some (some (s + 12 + m), x) := by
  have hM := hI.1.1
  have hM2 := hM.2
  unfold ff_SH_griefsOf
  rw [p_has, bnd_some, (sp_rf hs).1, h.2.1.1, hM.1, hs_yes hm (by omega), if_neg (by decide), (sp_rf hs).2.2.2.2.2.1, (sp_ln hs).2.2.2.2.2.1, if_pos (ixb_nI (by omega) (by omega)), ix_nI (by omega), (sp_row hs (by omega)).1]
theorem c_griefsOf_n (x : St) (s : Nat) : ff_SH_griefsOf x s (-1) = some (none, x) := by
  unfold ff_SH_griefsOf
  rw [p_has, bnd_some, hs_neg, if_pos rfl]
/-- two boilers, by their rows -/
theorem stF_of {x : St} {s a : Nat} {g : Nat → Int32} {c : Int32} (hs : sp s) (hI : InvG g) (h : RS x s g) (ha : a < ix (g 0)) (hc : c = -1 ∨ (rg 5 c ∧ ix c < ix (g 0))) : stF (SG g (-1) a c) x (s + 12 + a) (if c = -1 then none else some (s + 12 + ix c)) := by
  have hM2 := hI.1.1.2
  refine ⟨(sp_row hs (by omega)).2, fun e _ => SG_le hI ha hc e, ?_⟩
  by_cases q : c = -1
  · refine Or.inl ⟨if_pos q, fun e he => ?_⟩
    unfold SG
    rw [if_pos q]
    exact h.2 a ha e he
  · obtain ⟨c1, c2⟩ := hc.resolve_left q
    refine Or.inr ⟨s + 12 + ix c, GR g (-1) a, GR g (-1) (ix c), if_neg q, (sp_row hs (by omega)).2, fun e he => ⟨h.2 a ha e he, h.2 _ c2 e he, GR_le (hI.2.1 a ha).2.1.2 e, GR_le (hI.2.1 _ c2).2.1.2 e, ?_⟩⟩
    unfold SG
    rw [if_neg q]
theorem c_griefsOf2 {x : St} {s : Nat} {g : Nat → Int32} {c : Int32} (hs : sp s) (hI : InvG g) (h : RL x s g) (hc : c = -1 ∨ (rg 5 c ∧ ix c < ix (g 0))) : ff_SH_griefsOf x s c = some (if c = -1 then none else some (s + 12 + ix c), x) := by
  by_cases q : c = -1
  · rw [if_pos q, q]; exact c_griefsOf_n x s
  · obtain ⟨c1, c2⟩ := hc.resolve_left q
    rw [if_neg q]
    have := c_griefsOf hs hI h c2
    rw [← c1.1] at this
    exact this
def OPI (g : Nat → Int32) (j : Nat) : Int32 := if g (26 + 4 * j) = -1 then -1 else nI (OP g (-1) j)
theorem c_openingOf {x : St} {s j : Nat} {g : Nat → Int32} (hs : sp s) (hI : InvG g) (h : RS x s g) (hj : j < ix (g 1)) : ff_SH_openingOf x s (nI j) = some (OPI g j, x) := by
  unfold ff_SH_openingOf OPI
  rw [c_boiledOn hs hI h.1 hj, bnd_some]
  by_cases q : g (26 + 4 * j) = -1
  · rw [if_pos q, if_pos q]
  · obtain ⟨hl, hB⟩ := hI.2.2.1 j hj
    obtain ⟨b0, b1, b2, b3⟩ := hB.resolve_left (fun z => q z.1)
    have hc : g (28 + 4 * j) = -1 ∨ (rg 5 (g (28 + 4 * j)) ∧ ix (g (28 + 4 * j)) < ix (g 0)) := b3.imp id (fun z => ⟨z.1, z.2.1⟩)
    have b02 := b0.2
    have e0 := at_jo hs hI h.1 hj
    have e1 := c_griefsOf hs hI h.1 b2
    rw [← b1.1] at e1
    have e2 := c_fw (d := ix (g (26 + 4 * j))) (en := 99) (load := ix (g (25 + 4 * j))) (stF_of hs hI h b2 hc) hl.2 (by omega) (by omega)
    rw [← hl.1, ← b0.1] at e2
    rw [if_neg q, if_neg q, c_firstBoiler hs hI h.1 hj, bnd_some, e1, bnd_some, c_secondBoiler hs hI h.1 hj, bnd_some, c_griefsOf2 hs hI h.1 hc, bnd_some, show (0 : Int32) = nI 0 from rfl, e0, bnd_some, show (99 : Int32) = nI 99 from rfl, e2]; rfl
theorem OP_le (g : Nat → Int32) (w : Int32) (j : Nat) (h : ix (g (26 + 4 * j)) ≤ 99) : OP g w j ≤ 100 := by
  have := fw_le (SG g w (ix (g (27 + 4 * j))) (g (28 + 4 * j))) (ix (g (25 + 4 * j))) (100 - ix (g (26 + 4 * j))) (ix (g (26 + 4 * j)))
  unfold OP
  omega
/-- a joint that was boiled and doesn't open up to a day -/
def hold (g : Nat → Int32) (t j : Nat) : Bool := decide (¬ g (26 + 4 * j) = -1 ∧ t < OP g (-1) j)
theorem OPI_lt {g : Nat → Int32} {j t : Nat} (hI : InvG g) (hj : j < ix (g 1)) (ht : t < 2 ^ 31) : nI t < OPI g j ↔ hold g t j = true := by
  unfold OPI hold
  rw [decide_eq_true_eq]
  by_cases q : g (26 + 4 * j) = -1
  · rw [if_pos q]
    constructor
    · intro z
      rw [lt_nI_iff ht, show ((-1 : Int32)).toInt = -1 from by decide] at z
      omega
    · intro z; exact absurd q z.1
  · obtain ⟨hl, hB⟩ := hI.2.2.1 j hj
    obtain ⟨b0, -⟩ := hB.resolve_left (fun z => q z.1)
    have := OP_le g (-1) j b0.2
    rw [if_neg q, nI_ltI ht (by omega)]
    exact ⟨fun z => ⟨q, z⟩, fun z => z.2⟩
/-- the joints that are open on the day that is, among the first n -/
def obN (g : Nat → Int32) : Nat → Nat
  | 0 => 0
  | n + 1 => if hold g (ix (g 5)) n = true then obN g n else obN g n + 2 ^ n
theorem obN_s (g : Nat → Int32) (n : Nat) : obN g (n + 1) = if hold g (ix (g 5)) n = true then obN g n else obN g n + 2 ^ n := rfl
theorem obN_lt (g : Nat → Int32) : ∀ n, obN g n < 2 ^ n
  | 0 => by show 0 < 1; decide
  | n + 1 => by
    have := obN_lt g n
    have e : 2 ^ (n + 1) = 2 ^ n + 2 ^ n := by rw [Nat.pow_succ]; omega
    unfold obN
    split <;> omega
theorem c_ojL {x : St} {s : Nat} {g : Nat → Int32} (hs : sp s) (hI : InvG g) (h : RS x s g) : ∀ (n N j : Nat), j + n = ix (g 1) → n < N → ff_SH_openJoints_4 N x s (nI (obN g j)) (nI j) = some (nI (obN g (ix (g 1))), x) := by
  have hJ := hI.1.2.1
  have hJ2 := hJ.2
  have hd := hI.1.2.2.2.2.2.1
  have hd2 := hd.2
  intro n
  induction n with
  | zero =>
    intro N j hj hN
    obtain ⟨N, rfl⟩ : ∃ K, N = K + 1 := ⟨N - 1, by omega⟩
    show (if gi x (rf s 1) 3 ≤ nI j then _ else _) = _
    have e : j = ix (g 1) := by omega
    rw [(sp_rf hs).2.1, h.1.2.1.2.1, ← e, e, ← hJ.1, if_pos (Int32.le_refl _)]
  | succ n ih =>
    intro N j hj hN
    obtain ⟨N, rfl⟩ : ∃ K, N = K + 1 := ⟨N - 1, by omega⟩
    show (if gi x (rf s 1) 3 ≤ nI j then _ else _) = _
    have hz : gi x (rf s 1) 3 = nI (ix (g 1)) := by rw [(sp_rf hs).2.1, h.1.2.1.2.1]; exact hJ.1
    have hz2 : gi x s 9 = nI (ix (g 5)) := by rw [h.1.2.1.2.2.2.2.2.1]; exact hd.1
    rw [hz, if_neg (nI_ge (by omega) (by omega)), c_openingOf hs hI h (by omega), bnd_some, hz2, nI_1]
    have ih2 := ih N (j + 1) (by omega) (by omega)
    rw [obN_s] at ih2
    by_cases q : hold g (ix (g 5)) j = true
    · rw [if_pos ((OPI_lt hI (by omega) (by omega)).mpr q)]
      rw [if_pos q] at ih2
      exact ih2
    · rw [if_neg (fun z => q ((OPI_lt hI (by omega) (by omega)).mp z)), li_eq, sh_nI (by omega), or_add (obN_lt g j)]
      rw [if_neg q] at ih2
      exact ih2
theorem c_openJoints {x : St} {s : Nat} {g : Nat → Int32} (hs : sp s) (hI : InvG g) (h : RS x s g) : ff_SH_openJoints x s = some (nI (obN g (ix (g 1))), x) := by
  have hJ2 := hI.1.2.1.2
  exact c_ojL hs hI h (ix (g 1)) FU 0 (by omega) (by unfold FU; omega)
theorem or_z (v : Int32) : v ||| 0 = v := by
  apply Int32.toBitVec_inj.1
  show v.toBitVec ||| 0#32 = v.toBitVec
  simp
theorem m_onL {x : St} {b : Nat} {g : Nat → Int32} (hI : InvG g) (hV : MV x b g) (hG : GF g (-1) x) : ∀ (n N j : Nat), j + n = ix (g 1) → n < N → ff_MO_openNow_9 N x 100 (nI (obN g j)) (nI j) = some (nI (obN g (ix (g 1))), x) := by
  have hJ := hI.1.2.1
  have hJ2 := hJ.2
  have hd := hI.1.2.2.2.2.2.1
  have hd2 := hd.2
  intro n
  induction n with
  | zero =>
    intro N j hj hN
    obtain ⟨N, rfl⟩ : ∃ K, N = K + 1 := ⟨N - 1, by omega⟩
    have e : j = ix (g 1) := by omega
    show bnd (ff_MO_get x 100 (nI 1)) _ = _
    rw [m_getN hV (by decide) hJ, bnd_some, e, if_pos (Int32.le_refl _)]
  | succ n ih =>
    intro N j hj hN
    obtain ⟨N, rfl⟩ : ∃ K, N = K + 1 := ⟨N - 1, by omega⟩
    have ih2 := ih N (j + 1) (by omega) (by omega)
    rw [obN_s] at ih2
    show bnd (ff_MO_get x 100 (nI 1)) _ = _
    rw [m_getN hV (by decide) hJ, bnd_some, if_neg (nI_ge (by omega) (by omega)), m_isBoiled hV (by omega), bnd_some]
    by_cases q : g (26 + 4 * j) = -1
    · have nq : ¬ hold g (ix (g 5)) j = true := by unfold hold; rw [decide_eq_true_eq]; exact fun z => z.1 q
      rw [if_neg nq] at ih2
      rw [if_pos q, if_pos rfl, li_eq, sh_nI (by omega), or_add (obN_lt g j), nI_1]
      exact ih2
    · obtain ⟨hl, hB⟩ := hI.2.2.1 j (by omega)
      obtain ⟨b0, -⟩ := hB.resolve_left (fun z => q z.1)
      have ho := OP_le g (-1) j b0.2
      rw [if_neg q, if_neg (by decide), m_opensBy hI hV hG (by omega) q, bnd_some, show (5 : Int32) = nI 5 from rfl, m_getN hV (by decide) hd, bnd_some]
      by_cases z : ix (g 5) < OP g (-1) j
      · have yq : hold g (ix (g 5)) j = true := by unfold hold; rw [decide_eq_true_eq]; exact ⟨q, z⟩
        rw [if_pos yq] at ih2
        rw [if_neg (nI_ge z (by omega)), or_z, nI_1]
        exact ih2
      · have nq : ¬ hold g (ix (g 5)) j = true := by unfold hold; rw [decide_eq_true_eq]; exact fun y => z y.2
        rw [if_neg nq] at ih2
        rw [if_pos (nI_le (by omega) (by omega)), li_eq, sh_nI (by omega), or_add (obN_lt g j), nI_1]
        exact ih2
/-! lasting -/
def allU (c : Nat → Bool) : Nat → Nat → Bool
  | _, 0 => true
  | j, n + 1 => c j && allU c (j + 1) n
def tlN (g : Nat → Int32) (p : Nat) : Nat := max (ix (g (50 + 2 * p))) (ix (g 5))
def lcB (g : Nat → Int32) (p j : Nat) : Bool := !(bN (ix (g (49 + 2 * p))) j) || hold g (tlN g p) j
/-- a piece lasts -/
def lasB (g : Nat → Int32) (p : Nat) : Bool := allU (lcB g p) 0 (ix (g 1))
def b32 (b : Bool) : Int32 := if b = true then 1 else 0
theorem c_isPartOf {x : St} {s j p : Nat} {g : Nat → Int32} (hs : sp s) (hI : InvG g) (h : RL x s g) (hp : p < ix (g 2)) (hj : j < 7) : ff_SH_isPartOf x s (nI j) (nI p) = some (b32 (bN (ix (g (49 + 2 * p))) j), x) := by
  have e0 := at_pi hs hI h hp (c := 0) (by decide)
  obtain ⟨r1, -⟩ := hI.2.2.2.1 p hp
  have hJ2 := hI.1.2.1.2
  have h64 : 2 ^ ix (g 1) ≤ 2 ^ 6 := Nat.pow_le_pow_right (by decide) hJ2
  have r2 := r1.2
  unfold ff_SH_isPartOf
  rw [Nat.add_zero, r1.1] at e0
  rw [show (0 : Int32) = nI 0 from rfl, e0, bnd_some]
  unfold b32
  by_cases q : bN (ix (g (49 + 2 * p))) j = true
  · rw [if_pos ((bt_1 (by omega) hj).mpr q), if_pos q]
  · rw [if_neg (fun z => q ((bt_1 (by omega) hj).mp z)), if_neg q]; rfl
theorem c_laL {x : St} {s p : Nat} {g : Nat → Int32} (hs : sp s) (hI : InvG g) (h : RS x s g) (hp : p < ix (g 2)) : ∀ (n N j : Nat), j + n = ix (g 1) → n < N → ff_SH_isLasting_19 N x s (nI p) (nI (tlN g p)) (nI j) = some (b32 (allU (lcB g p) j n), x) := by
  have hJ := hI.1.2.1
  have hJ2 := hJ.2
  have hd2 := hI.1.2.2.2.2.2.1.2
  have hl2 := (hI.2.2.2.1 p hp).2.2.2
  have ht : tlN g p ≤ 99 := by unfold tlN; omega
  have hz : gi x (rf s 1) 3 = nI (ix (g 1)) := by rw [(sp_rf hs).2.1, h.1.2.1.2.1]; exact hJ.1
  intro n
  induction n with
  | zero =>
    intro N j hj hN
    obtain ⟨N, rfl⟩ : ∃ K, N = K + 1 := ⟨N - 1, by omega⟩
    show (if gi x (rf s 1) 3 ≤ nI j then _ else _) = _
    rw [hz, if_pos (nI_le (by omega) (by omega))]; rfl
  | succ n ih =>
    intro N j hj hN
    obtain ⟨N, rfl⟩ : ∃ K, N = K + 1 := ⟨N - 1, by omega⟩
    show (if gi x (rf s 1) 3 ≤ nI j then _ else _) = _
    rw [hz, if_neg (nI_ge (by omega) (by omega)), c_isPartOf hs hI h.1 hp (by omega), bnd_some, nI_1, ih N (j + 1) (by omega) (by omega)]
    show _ = some (b32 (lcB g p j && allU (lcB g p) (j + 1) n), x)
    cases q : bN (ix (g (49 + 2 * p))) j with
    | false => simp [lcB, q, b32]
    | true =>
      rw [show b32 true = 1 from rfl, if_neg (by decide), c_openingOf hs hI h (by omega), bnd_some]
      by_cases z : hold g (tlN g p) j = true
      · rw [if_pos ((OPI_lt hI (by omega) (by omega)).mpr z), ih N (j + 1) (by omega) (by omega)]
        simp [lcB, z]
      · rw [if_neg (fun y => z ((OPI_lt hI (by omega) (by omega)).mp y))]
        simp only [Bool.not_eq_true] at z
        simp [lcB, q, z, b32]
theorem c_isLasting {x : St} {s p : Nat} {g : Nat → Int32} (hs : sp s) (hI : InvG g) (h : RS x s g) (hp : p < ix (g 2)) : ff_SH_isLasting x s (nI p) = some (b32 (lasB g p), x) := by
  have hJ2 := hI.1.2.1.2
  have hd := hI.1.2.2.2.2.2.1
  have hd2 := hd.2
  obtain ⟨-, -, r3⟩ := hI.2.2.2.1 p hp
  have r32 := r3.2
  have e0 := at_pi hs hI h.1 hp (c := 1) (by decide)
  rw [show 49 + 2 * p + 1 = 50 + 2 * p by omega, r3.1] at e0
  unfold ff_SH_isLasting
  rw [show (1 : Int32) = nI 1 from rfl, e0, bnd_some, h.1.2.1.2.2.2.2.2.1, hd.1, imax_nI (by omega) (by omega)]
  exact c_laL hs hI h hp (ix (g 1)) FU 0 (by omega) (by unfold FU; omega)
theorem m_laL {x : St} {b p : Nat} {g : Nat → Int32} (hI : InvG g) (hV : MV x b g) (hG : GF g (-1) x) (hp : p < ix (g 2)) : ∀ (n N j : Nat) (v : Bool), j + n = ix (g 1) → n < N → ff_MO_isLasting_58 N x 100 (nI (ix (g (49 + 2 * p)))) (nI (tlN g p)) (b32 v) (nI j) = some (b32 (v && allU (lcB g p) j n), x) := by
  have hJ := hI.1.2.1
  have hJ2 := hJ.2
  have hd2 := hI.1.2.2.2.2.2.1.2
  obtain ⟨r1, -, r3⟩ := hI.2.2.2.1 p hp
  have r12 := r1.2
  have r32 := r3.2
  have h64 : 2 ^ ix (g 1) ≤ 2 ^ 6 := Nat.pow_le_pow_right (by decide) hJ2
  have ht : tlN g p ≤ 99 := by unfold tlN; omega
  intro n
  induction n with
  | zero =>
    intro N j v hj hN
    obtain ⟨N, rfl⟩ : ∃ K, N = K + 1 := ⟨N - 1, by omega⟩
    show bnd (ff_MO_get x 100 (nI 1)) _ = _
    rw [m_getN hV (by decide) hJ, bnd_some, if_pos (nI_le (by omega) (by omega))]
    cases v <;> rfl
  | succ n ih =>
    intro N j v hj hN
    obtain ⟨N, rfl⟩ : ∃ K, N = K + 1 := ⟨N - 1, by omega⟩
    have i0 := ih N (j + 1) false (by omega) (by omega)
    have i1 := ih N (j + 1) true (by omega) (by omega)
    show bnd (ff_MO_get x 100 (nI 1)) _ = _
    rw [m_getN hV (by decide) hJ, bnd_some, if_neg (nI_ge (by omega) (by omega)), nI_1]
    show _ = some (b32 (v && (lcB g p j && allU (lcB g p) (j + 1) n)), x)
    cases v with
    | false =>
      rw [show b32 false = 0 from rfl, if_pos rfl]
      exact i0
    | true =>
      rw [show b32 true = 1 from rfl, if_neg (by decide)]
      cases q : bN (ix (g (49 + 2 * p))) j with
      | false =>
        rw [if_pos ((bt_0 (by omega) (by omega)).mpr q)]
        have : lcB g p j = true := by simp [lcB, q]
        rw [this]
        exact i1
      | true =>
        rw [if_neg (fun z => by rw [bt_0 (by omega) (by omega), q] at z; cases z), m_isBoiled hV (by omega), bnd_some]
        by_cases c : g (26 + 4 * j) = -1
        · have : lcB g p j = false := by simp [lcB, q, hold, c]
          rw [if_pos c, if_pos rfl, this]
          exact i0
        · obtain ⟨hl, hB⟩ := hI.2.2.1 j (by omega)
          obtain ⟨b0, -⟩ := hB.resolve_left (fun z => c z.1)
          have ho := OP_le g (-1) j b0.2
          rw [if_neg c, if_neg (by decide), m_opensBy hI hV hG (by omega) c, bnd_some]
          by_cases z : tlN g p < OP g (-1) j
          · have : lcB g p j = true := by simp [lcB, hold, c, z]
            rw [if_neg (nI_ge z (by omega)), this]
            exact i1
          · have : lcB g p j = false := by simp [lcB, q, hold, z]
            rw [if_pos (nI_le (by omega) (by omega)), this]
            exact i0
theorem m_isLasting {x : St} {b p : Nat} {g : Nat → Int32} (hI : InvG g) (hV : MV x b g) (hG : GF g (-1) x) (hp : p < ix (g 2)) : ff_MO_isLasting x 100 (nI p) = some (b32 (lasB g p), x) := by
  have hJ2 := hI.1.2.1.2
  have hP2 := hI.1.2.2.1.2
  have hd := hI.1.2.2.2.2.2.1
  have hd2 := hd.2
  obtain ⟨r1, -, r3⟩ := hI.2.2.2.1 p hp
  have r32 := r3.2
  have key := m_laL hI hV hG hp (ix (g 1)) FU 0 true (by omega) (by unfold FU; omega)
  rw [Bool.true_and] at key
  unfold ff_MO_isLasting
  rw [show (49 + 2 * nI p : Int32) = nI (49 + 2 * p) from lin 49 2 p, m_getN hV (by omega) r1, bnd_some, show nI (49 + 2 * p) + 1 = nI (50 + 2 * p) from by rw [nI_1]; congr 1; omega, m_getN hV (by omega) r3, bnd_some, show (5 : Int32) = nI 5 from rfl, m_getN hV (by decide) hd, bnd_some]
  by_cases z : ix (g (50 + 2 * p)) ≤ ix (g 5)
  · rw [if_pos (nI_le z (by omega)), m_getN hV (by decide) hd, bnd_some]
    have : tlN g p = ix (g 5) := by unfold tlN; omega
    rw [this] at key
    exact key
  · rw [if_neg (nI_ge (by omega) (by omega)), m_getN hV (by omega) r3, bnd_some]
    have : tlN g p = ix (g (50 + 2 * p)) := by unfold tlN; omega
    rw [this] at key
    exact key
