/-! reading, step by step, on both sides -/
def onlyC (x y : St) : Prop := (∀ a k, ¬ (a = 3 ∧ (k = 2 ∨ k = 3 ∨ k = 5 ∨ k = 6 ∨ k = 7)) → gi y a k = gi x a k) ∧ ∀ a k, gl y a k = gl x a k
def onlyT (x y : St) : Prop := (∀ a k, ¬ (a = 100 ∧ 8 ≤ k ∧ k ≤ 12) → gi y a k = gi x a k) ∧ ∀ a k, gl y a k = gl x a k
theorem onlyC_tr {x y z : St} (h1 : onlyC x y) (h2 : onlyC y z) : onlyC x z := ⟨fun a k h => (h2.1 a k h).trans (h1.1 a k h), fun a k => (h2.2 a k).trans (h1.2 a k)⟩
theorem onlyT_tr {x y z : St} (h1 : onlyT x y) (h2 : onlyT y z) : onlyT x z := ⟨fun a k h => (h2.1 a k h).trans (h1.1 a k h), fun a k => (h2.2 a k).trans (h1.2 a k)⟩
theorem onlyC_3 {x y : St} (h : only3 x y) : onlyC x y := ⟨fun a k e => h.1 a k (by omega), h.2⟩
theorem onlyT_K {x y : St} (h : onlyK x y) : onlyT x y := ⟨fun a k e => h.1 a k (by omega), h.2⟩
theorem onlyC_si (x : St) (v : Int32) : onlyC x (si x 3 3 v) := ⟨fun a j h => gi_si_n _ _ _ _ (fun e => h ⟨e.1, by omega⟩), fun _ _ => rfl⟩
theorem onlyT_si (x : St) (v : Int32) : onlyT x (si x 100 12 v) := ⟨fun a j h => gi_si_n _ _ _ _ (fun e => h ⟨e.1, by omega⟩), fun _ _ => rfl⟩
/-- what reading leaves as it was -/
def frC (x y : St) : Prop := (∀ a k, ¬ (a = 3 ∧ (k = 2 ∨ k = 3 ∨ k = 5 ∨ k = 6 ∨ k = 7)) → ¬ (76 ≤ a ∧ a < 96) → gi y a k = gi x a k) ∧ (∀ a k, gl y a k = gl x a k) ∧ LC y 76
def frM (x y : St) : Prop := gi y 100 1 = nI 945 ∧ (∀ a k, ¬ (a = 100 ∧ 8 ≤ k ∧ k ≤ 12) → ¬ (a = 101 ∧ 945 ≤ k) → gi y a k = gi x a k) ∧ ∀ a k, gl y a k = gl x a k
theorem LC_C {x y : St} (h : LC x 76) (o : onlyC x y) : LC y 76 := LC_eq h (fun a k h1 h2 _ => o.1 a k (by omega))
theorem frC_C {c x y : St} (h : frC c x) (o : onlyC x y) : frC c y := ⟨fun a k h1 h2 => (o.1 a k h1).trans (h.1 a k h1 h2), fun a k => (o.2 a k).trans (h.2.1 a k), LC_C h.2.2 o⟩
theorem frM_T {c x y : St} (h : frM c x) (o : onlyT x y) : frM c y := ⟨by rw [o.1 _ _ (by omega)]; exact h.1, fun a k h1 h2 => (o.1 a k h1).trans (h.2.1 a k h1 h2), fun a k => (o.2 a k).trans (h.2.2 a k)⟩
theorem frC_S {c x y : St} (h : frC c x) (o : onlyS 76 x y) (hl : LC y 76) : frC c y := ⟨fun a k h1 h2 => (o.1 a k (by omega)).trans (h.1 a k h1 h2), fun a k => (o.2 a k).trans (h.2.1 a k), hl⟩
theorem frM_R {c x y : St} (h : frM c x) (o : onlyR 945 x y) : frM c y := ⟨by rw [o.1 _ _ (by omega)]; exact h.1, fun a k h1 h2 => (o.1 a k (by omega)).trans (h.2.1 a k h1 h2), fun a k => (o.2 a k).trans (h.2.2 a k)⟩
theorem reg_T {x y : St} {b : Nat} (o : onlyT x y) : reg y b = reg x b := reg_eq (fun k => o.1 _ _ (by omega))
theorem Pl_CT {c c' m m' : St} (h : Pl c m 76 945) (o : onlyC c c') (o' : onlyT m m') : Pl c' m' 76 945 := by
  obtain ⟨h1, ⟨h2, h3⟩, h4, h5⟩ := h
  refine ⟨h1, ⟨by rw [o'.1 _ _ (by omega)]; exact h2, h3⟩, by rw [reg_T o']; exact h4, ?_⟩
  rw [reg_T o']
  exact RL_eq h5 (fun a k h1 h2 _ => o.1 a k (by omega))
/-- the class, before the token from p on; the reference, with that token read -/
def JC (t : Nat) (f : Nat → Nat) (c : St) (p : Nat) : Prop := TX c t f ∧ gi c 3 2 = nI p ∧ gi c 3 3 = -1
def JM (t : Nat) (f : Nat → Nat) (m : St) (p : Nat) : Prop := TM m t f ∧ gi m 100 8 = nI (tkE f t p) ∧ gi m 100 9 = nI (tkS f t p) ∧ gi m 100 10 = nI (tkM f t p) ∧ (tkC f t p = 2 → gi m 100 11 = nI (tkV f (tkS f t p) (tkE f t p))) ∧ gi m 100 12 = -1
def JJ (t : Nat) (f : Nat → Nat) (c0 m0 c m : St) (p : Nat) : Prop := p ≤ t ∧ JC t f c p ∧ JM t f m p ∧ Pl c m 76 945 ∧ frC c0 c ∧ frM m0 m
def RF (c0 m0 c m : St) : Prop := ∃ q, q ≤ 250 ∧ gi c 3 3 = nI q ∧ gi m 100 12 = nI q ∧ frC c0 c ∧ frM m0 m
theorem TX_C {x y : St} {t : Nat} {f : Nat → Nat} (h : TX x t f) (o : onlyC x y) : TX y t f := ⟨h.1, by rw [o.1 _ _ (by omega)]; exact h.2.1, fun i hi => by rw [o.1 _ _ (by omega)]; exact h.2.2 i hi⟩
theorem TM_T {x y : St} {t : Nat} {f : Nat → Nat} (h : TM x t f) (o : onlyT x y) : TM y t f := ⟨h.1, by rw [o.1 _ _ (by omega)]; exact h.2.1, fun i hi => by rw [o.1 _ _ (by omega)]; exact h.2.2 i hi⟩
theorem JM_R {t : Nat} {f : Nat → Nat} {x y : St} {p : Nat} (h : JM t f x p) (o : onlyR 945 x y) : JM t f y p := by
  obtain ⟨h1, h2, h3, h4, h5, h6⟩ := h
  have e : ∀ k, gi y 100 k = gi x 100 k := fun k => o.1 _ _ (by omega)
  exact ⟨⟨h1.1, by rw [e]; exact h1.2.1, fun i hi => by rw [o.1 _ _ (by omega)]; exact h1.2.2 i hi⟩, by rw [e]; exact h2, by rw [e]; exact h3, by rw [e]; exact h4, fun q => by rw [e]; exact h5 q, by rw [e]; exact h6⟩
theorem JC_S {t : Nat} {f : Nat → Nat} {x y : St} {p : Nat} (h : JC t f x p) (o : onlyS 76 x y) : JC t f y p := by
  obtain ⟨h1, h2, h3⟩ := h
  have e : ∀ a k, a < 76 → gi y a k = gi x a k := fun a k ha => o.1 _ _ (by omega)
  exact ⟨⟨h1.1, by rw [e _ _ (by decide)]; exact h1.2.1, fun i hi => by rw [e _ _ (by decide)]; exact h1.2.2 i hi⟩, by rw [e _ _ (by decide)]; exact h2, by rw [e _ _ (by decide)]; exact h3⟩
/-- the class's next token, the fault as it was -/
theorem c_tk {t p : Nat} {f : Nat → Nat} {c : St} (h : JC t f c p) (hp : p ≤ t) : ∃ y, ff_RE_nextToken c 3 = some ((), y) ∧ onlyC c y ∧ JC t f y (tkE f t p) ∧ gi y 3 6 = nI (tkS f t p) ∧ gi y 3 5 = nI (tkC f t p) ∧ (tkC f t p = 2 → gi y 3 7 = nI (tkV f (tkS f t p) (tkE f t p))) := by
  obtain ⟨h1, h2, h3⟩ := h
  obtain ⟨y, y1, y2, y3, y4, y5, y6⟩ := c_token h1 hp h2
  exact ⟨y, y1, onlyC_3 y2, ⟨TX_3 h1 y2, y4, by rw [y2.1 _ _ (by omega)]; exact h3⟩, y3, y5, y6⟩
theorem m_tk {t p : Nat} {f : Nat → Nat} {m : St} (h : JM t f m p) (hp : p ≤ t) : ∃ y, ff_MO_due m 100 1 = some (gi m 100 11, y) ∧ onlyT m y ∧ JM t f y (tkE f t p) := by
  obtain ⟨h1, h2, h3, h4, h5, h6⟩ := h
  obtain ⟨y, y1, y2, y3, y4, y5, y6⟩ := m_token h1 (tkE_le hp).2 h2
  refine ⟨y, ?_, onlyT_K y2, TM_K h1 y2, y4, y3, y5, y6, by rw [y2.1 _ _ (by omega)]; exact h6⟩
  unfold ff_MO_due
  rw [h6, if_pos rfl, if_neg (by decide), y1, bnd_some]
theorem m_no {t p : Nat} {f : Nat → Nat} {m : St} (h : JM t f m p) : ff_MO_due m 100 0 = some (gi m 100 11, si m 100 12 (nI (tkS f t p))) := by
  obtain ⟨h1, h2, h3, h4, h5, h6⟩ := h
  unfold ff_MO_due
  rw [h6, if_pos rfl, if_pos rfl, st_eq, h3]
theorem c_bl {c : St} {q : Nat} (h3 : gi c 3 3 = -1) (h6 : gi c 3 6 = nI q) : ff_RE_blame c 3 = some ((), si c 3 3 (nI q)) := by
  unfold ff_RE_blame
  rw [h3, if_pos rfl, st_eq, h6]
theorem c_blF {c : St} {q : Nat} (hq : q ≤ 250) (h3 : gi c 3 3 = nI q) : ff_RE_blame c 3 = some ((), c) := by
  unfold ff_RE_blame
  rw [h3, if_neg (nI_ne_m1 (by omega))]
theorem f_num {c : St} {q : Nat} (hq : q ≤ 250) (h3 : gi c 3 3 = nI q) (lo hi : Int32) : ff_RE_readNumber c 3 lo hi = some (gi c 3 7, c) := by
  unfold ff_RE_readNumber
  rw [h3, if_neg (nI_ne_m1 (by omega))]
theorem f_stop {c : St} {q : Nat} (hq : q ≤ 250) (h3 : gi c 3 3 = nI q) : ff_RE_readStop c 3 = some ((), c) := by
  unfold ff_RE_readStop
  rw [h3, if_neg (nI_ne_m1 (by omega))]
theorem g_due {m : St} {q : Nat} (hq : q ≤ 250) (h3 : gi m 100 12 = nI q) (b : Int32) : ff_MO_due m 100 b = some (gi m 100 11, m) := by
  unfold ff_MO_due
  rw [h3, if_neg (nI_ne_m1 (by omega))]
theorem g_num (m : St) (lo hi : Int32) : ff_MO_isNumber m 100 lo hi = some (if gi m 100 10 = 7 then wn (gi m 100 11) lo hi else 0, m) := by
  unfold ff_MO_isNumber
  by_cases q : gi m 100 10 = 7
  · rw [if_pos q, if_pos q, p_in, bnd_some]
    unfold wn
    split
    · rfl
    · split <;> rfl
  · rw [if_neg q, if_neg q]
theorem g_135 {m : St} {q : Nat} (hq : q ≤ 250) (h3 : gi m 100 12 = nI q) : ff_MO_readItem_135 m 100 = some ((), m) := by
  unfold ff_MO_readItem_135
  rw [g_due hq h3, g_due hq h3, bnd_some]
  split <;> rfl
/-- the class reads a number -/
theorem c_num {t p : Nat} {f : Nat → Nat} {c : St} (h : JC t f c p) (hp : p ≤ t) (lo hi : Int32) : ∃ r y, ff_RE_readNumber c 3 lo hi = some (r, y) ∧ onlyC c y ∧ (((tkC f t p = 2 ∧ ¬ wn (nI (tkV f (tkS f t p) (tkE f t p))) lo hi = 0) ∧ r = nI (tkV f (tkS f t p) (tkE f t p)) ∧ JC t f y (tkE f t p)) ∨ (¬ (tkC f t p = 2 ∧ ¬ wn (nI (tkV f (tkS f t p) (tkE f t p))) lo hi = 0) ∧ gi y 3 3 = nI (tkS f t p))) := by
  obtain ⟨y, y1, y2, y3, y4, y5, y6⟩ := c_tk h hp
  have hc := tkC_le f t p
  have e0 : ff_RE_readNumber c 3 lo hi = bnd (ff_RE_wantNumber y 3 lo hi) (fun _ x_6 => some (gi x_6 3 7, x_6)) := by
    unfold ff_RE_readNumber
    rw [h.2.2, if_pos rfl, y1, bnd_some]
  have eF : ff_RE_blame y 3 = some ((), si y 3 3 (nI (tkS f t p))) := c_bl y3.2.2 y4
  rw [e0]
  unfold ff_RE_wantNumber
  rw [y5, show (2 : Int32) = nI 2 from rfl, nI_eqi (by omega) (by decide)]
  by_cases q : tkC f t p = 2
  · rw [if_pos q, y6 q, p_within, bnd_some]
    by_cases w : wn (nI (tkV f (tkS f t p) (tkE f t p))) lo hi = 0
    · rw [if_pos w, eF, bnd_some, bnd_some]
      exact ⟨_, _, rfl, onlyC_tr y2 (onlyC_si _ _), Or.inr ⟨fun z => z.2 w, gi_si_s _ _ _ _⟩⟩
    · rw [if_neg w, bnd_some, y6 q]
      exact ⟨_, _, rfl, y2, Or.inl ⟨⟨q, w⟩, rfl, y3⟩⟩
  · rw [if_neg q, eF, bnd_some, bnd_some]
    exact ⟨_, _, rfl, onlyC_tr y2 (onlyC_si _ _), Or.inr ⟨fun z => q z.1, gi_si_s _ _ _ _⟩⟩
theorem m_num {t p : Nat} {f : Nat → Nat} {m : St} (h : JM t f m p) (hp : p ≤ t) (lo hi : Int32) : ff_MO_isNumber m 100 lo hi = some (if tkC f t p = 2 then wn (nI (tkV f (tkS f t p) (tkE f t p))) lo hi else 0, m) := by
  obtain ⟨h1, h2, h3, h4, h5, h6⟩ := h
  have hM := tkM_le f t p hp
  rw [g_num, h4, show (7 : Int32) = nI 7 from rfl, nI_eqi (by omega) (by decide)]
  by_cases q : tkC f t p = 2
  · rw [if_pos ((tkM_7 hp).mpr q), if_pos q, h5 q]
  · rw [if_neg (fun z => q ((tkM_7 hp).mp z)), if_neg q]
theorem wn_01 (v a b : Int32) : wn v a b = 0 ∨ wn v a b = 1 := by
  unfold wn
  split
  · exact Or.inl rfl
  · split
    · exact Or.inl rfl
    · exact Or.inr rfl
/-- both end alike -/
def SimG (E : St → St → Prop) (A B : Option (Unit × St)) : Prop := ∃ c' m', A = some ((), c') ∧ B = some ((), m') ∧ E c' m'
theorem num_k {t p : Nat} {f : Nat → Nat} {c0 m0 c m : St} {E : St → St → Prop} {lo hi : Int32} {T : Option (Unit × St) → Option (Unit × St)} {kC kM : Int32 → St → Option (Unit × St)} (h : JJ t f c0 m0 c m p)
    (h1 : ∀ r c' m', ¬ wn r lo hi = 0 → p < tkE f t p → JJ t f c0 m0 c' m' (tkE f t p) → reg m' 945 = reg m 945 → SimG E (kC r c') (T (kM r m')))
    (h2 : ∀ r r' c' m', RF c0 m0 c' m' → SimG E (kC r c') (T (kM r' m'))) :
    SimG E (bnd (ff_RE_readNumber c 3 lo hi) kC) (T (bnd (ff_MO_isNumber m 100 lo hi) (fun b x => bnd (ff_MO_due x 100 b) kM))) := by
  obtain ⟨hp, hC, hM, hP, fC, fM⟩ := h
  have ht := hC.1.1
  have hs := tkS_le (f := f) hp
  obtain ⟨r, y, y1, y2, y3⟩ := c_num hC hp lo hi
  rw [y1, bnd_some, m_num hM hp, bnd_some]
  rcases y3 with ⟨⟨q, w⟩, rfl, y4⟩ | ⟨q, y4⟩
  · rw [if_pos q, (wn_01 _ lo hi).resolve_left w]
    obtain ⟨z, z1, z2, z3⟩ := m_tk hM hp
    rw [z1, bnd_some, hM.2.2.2.2.1 q]
    exact h1 _ _ _ w (tkE_lt hp (by omega)) ⟨(tkE_le hp).2, y4, z3, Pl_CT hP y2 z2, frC_C fC y2, frM_T fM z2⟩ (reg_T z2)
  · have : (if tkC f t p = 2 then wn (nI (tkV f (tkS f t p) (tkE f t p))) lo hi else 0) = 0 := by
      by_cases z : tkC f t p = 2
      · rw [if_pos z]
        exact Classical.byContradiction (fun w => q ⟨z, w⟩)
      · rw [if_neg z]
    rw [this, m_no hM, bnd_some]
    exact h2 _ _ _ _ ⟨tkS f t p, by omega, y4, gi_si_s _ _ _ _, frC_C fC y2, frM_T fM (onlyT_si _ _)⟩
theorem num_f {c0 m0 c m : St} {E : St → St → Prop} {lo hi lo' hi' : Int32} {T : Option (Unit × St) → Option (Unit × St)} {kC kM : Int32 → St → Option (Unit × St)} (h : RF c0 m0 c m)
    (h2 : ∀ r r', SimG E (kC r c) (T (kM r' m))) :
    SimG E (bnd (ff_RE_readNumber c 3 lo hi) kC) (T (bnd (ff_MO_isNumber m 100 lo' hi') (fun b x => bnd (ff_MO_due x 100 b) kM))) := by
  obtain ⟨q, q1, q2, q3, q4, q5⟩ := h
  rw [f_num q1 q2, bnd_some, g_num, bnd_some, g_due q1 q3, bnd_some]
  exact h2 _ _
/-- the end of an item, or a fault in it -/
def EE (t : Nat) (f : Nat → Nat) (c0 m0 : St) (p : Nat) (c m : St) : Prop := (∃ p', p < p' ∧ JJ t f c0 m0 c m p') ∨ RF c0 m0 c m
/-- a stop, and behind it what the class does, ahead of it what the reference does -/
theorem c_stop {t p : Nat} {f : Nat → Nat} {c : St} (h : JC t f c p) (hp : p ≤ t) : ∃ y, ff_RE_readStop c 3 = some ((), y) ∧ onlyC c y ∧ ((tkC f t p = 3 ∧ JC t f y (tkE f t p)) ∨ (¬ tkC f t p = 3 ∧ gi y 3 3 = nI (tkS f t p))) := by
  obtain ⟨y, y1, y2, y3, y4, y5, y6⟩ := c_tk h hp
  have hc := tkC_le f t p
  unfold ff_RE_readStop
  rw [h.2.2, if_pos rfl, y1, bnd_some]
  unfold ff_RE_wantStop
  rw [y5, show (3 : Int32) = nI 3 from rfl, nI_eqi (by omega) (by decide)]
  by_cases q : tkC f t p = 3
  · rw [if_pos q, bnd_some]
    exact ⟨_, rfl, y2, Or.inl ⟨q, y3⟩⟩
  · rw [if_neg q, c_bl y3.2.2 y4, bnd_some, bnd_some]
    exact ⟨_, rfl, onlyC_tr y2 (onlyC_si _ _), Or.inr ⟨q, gi_si_s _ _ _ _⟩⟩
theorem m_135 {t p : Nat} {f : Nat → Nat} {m : St} (h : JM t f m p) (hp : p ≤ t) : ∃ y, ff_MO_readItem_135 m 100 = some ((), y) ∧ onlyT m y ∧ ((tkC f t p = 3 ∧ JM t f y (tkE f t p)) ∨ (¬ tkC f t p = 3 ∧ gi y 100 12 = nI (tkS f t p))) := by
  have hM := tkM_le f t p hp
  unfold ff_MO_readItem_135
  rw [h.2.2.2.1, show (8 : Int32) = nI 8 from rfl, nI_eqi (by omega) (by decide)]
  by_cases q : tkC f t p = 3
  · obtain ⟨z, z1, z2, z3⟩ := m_tk h hp
    rw [if_pos ((tkM_8 hp).mpr q), z1, bnd_some]
    exact ⟨_, rfl, z2, Or.inl ⟨q, z3⟩⟩
  · rw [if_neg (fun z => q ((tkM_8 hp).mp z)), m_no h, bnd_some]
    exact ⟨_, rfl, onlyT_si _ _, Or.inr ⟨q, gi_si_s _ _ _ _⟩⟩
/-- the stop of an item that both sides have room for: a is what the class adds, b what the reference adds -/
theorem stop_k {t p p0 : Nat} {f : Nat → Nat} {c0 m0 c m : St} {a b : St → Option (Unit × St)} (h : JJ t f c0 m0 c m p) (h0 : p0 ≤ p)
    (hab : ∀ c1, Pl c1 m 76 945 → ∃ c' m', a c1 = some ((), c') ∧ b m = some ((), m') ∧ Pl c' m' 76 945 ∧ onlyS 76 c1 c' ∧ onlyR 945 m m') :
    SimG (EE t f c0 m0 p0) (bnd (ff_RE_readStop c 3) (fun _ x => if gi x 3 3 = -1 then a x else some ((), x))) (bnd (b m) (fun _ x => ff_MO_readItem_135 x 100)) := by
  obtain ⟨hp, hC, hM, hP, fC, fM⟩ := h
  have ht := hC.1.1
  have hs := tkS_le (f := f) hp
  obtain ⟨y, y1, y2, y3⟩ := c_stop hC hp
  have oR : onlyT m m := ⟨fun _ _ _ => rfl, fun _ _ => rfl⟩
  obtain ⟨c', m', e1, e2, e3, e4, e5⟩ := hab y (Pl_CT hP y2 oR)
  obtain ⟨z, z1, z2, z3⟩ := m_135 (JM_R hM e5) hp
  rw [y1, bnd_some, e2, bnd_some, z1]
  rcases y3 with ⟨q, y4⟩ | ⟨q, y4⟩
  · rw [y4.2.2, if_pos rfl, e1]
    have z4 : JM t f z (tkE f t p) := by
      rcases z3 with ⟨-, w⟩ | ⟨w, -⟩
      · exact w
      · exact absurd q w
    have oC : onlyC c' c' := ⟨fun _ _ _ => rfl, fun _ _ => rfl⟩
    exact ⟨c', z, rfl, rfl, Or.inl ⟨tkE f t p, Nat.lt_of_le_of_lt h0 (tkE_lt hp (by omega)), (tkE_le hp).2, JC_S y4 e4, z4, Pl_CT e3 oC z2, frC_S (frC_C fC y2) e4 e3.2.2.2.1, frM_T (frM_R fM e5) z2⟩⟩
  · rw [y4, if_neg (nI_ne_m1 (by omega))]
    have z4 : gi z 100 12 = nI (tkS f t p) := by
      rcases z3 with ⟨w, -⟩ | ⟨-, w⟩
      · exact absurd w q
      · exact w
    exact ⟨y, z, rfl, rfl, Or.inr ⟨tkS f t p, by omega, y4, z4, frC_C fC y2, frM_T (frM_R fM e5) z2⟩⟩
theorem stop_f {t p0 : Nat} {f : Nat → Nat} {c0 m0 c m : St} {a : St → Option (Unit × St)} (h : RF c0 m0 c m) :
    SimG (EE t f c0 m0 p0) (bnd (ff_RE_readStop c 3) (fun _ x => if gi x 3 3 = -1 then a x else some ((), x))) (ff_MO_readItem_135 m 100) := by
  obtain ⟨q, q1, q2, q3, q4, q5⟩ := h
  rw [f_stop q1 q2, bnd_some, q2, if_neg (nI_ne_m1 (by omega)), g_135 q1 q3]
  exact ⟨c, m, rfl, rfl, Or.inr ⟨q, q1, q2, q3, q4, q5⟩⟩
