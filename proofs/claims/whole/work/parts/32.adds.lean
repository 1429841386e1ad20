/-! adding, on both sides -/
def onlyS (s : Nat) (x y : St) : Prop := (∀ a k, ¬ (s ≤ a ∧ a < s + 20) → gi y a k = gi x a k) ∧ ∀ a k, gl y a k = gl x a k
def onlyR (b : Nat) (x y : St) : Prop := (∀ a k, ¬ (a = 101 ∧ b ≤ k ∧ k < b + 315) → gi y a k = gi x a k) ∧ ∀ a k, gl y a k = gl x a k
theorem onlyS_rf {s : Nat} {x : St} : onlyS s x x := ⟨fun _ _ _ => rfl, fun _ _ => rfl⟩
theorem onlyR_rf {s : Nat} {x : St} : onlyR s x x := ⟨fun _ _ _ => rfl, fun _ _ => rfl⟩
theorem onlyS_tr {s : Nat} {x y z : St} (h1 : onlyS s x y) (h2 : onlyS s y z) : onlyS s x z := ⟨fun a k h => (h2.1 a k h).trans (h1.1 a k h), fun a k => (h2.2 a k).trans (h1.2 a k)⟩
theorem onlyR_tr {s : Nat} {x y z : St} (h1 : onlyR s x y) (h2 : onlyR s y z) : onlyR s x z := ⟨fun a k h => (h2.1 a k h).trans (h1.1 a k h), fun a k => (h2.2 a k).trans (h1.2 a k)⟩
theorem onlyS_of {s q : Nat} {x y : St} (h : only q x y) (h1 : s ≤ q) (h2 : q < s + 20) : onlyS s x y := ⟨fun a k ha => h.1 a k (fun e => ha (by omega)), h.2⟩
theorem onlyR_si {b k : Nat} (v : Int32) (x : St) (hk : k < 315) : onlyR b x (si x 101 (b + k) v) := ⟨fun a j ha => gi_si_n _ _ _ _ (fun e => ha (by omega)), fun _ _ => rfl⟩
theorem MVr {x : St} {b : Nat} (h1 : gi x 100 1 = nI b) (h2 : b + 315 ≤ 1260) : MV x b (reg x b) := ⟨h1, h2, fun _ _ => rfl⟩
theorem reg_si (x : St) (b k : Nat) (v : Int32) : reg (si x 101 (b + k) v) b = upd (reg x b) k v := by
  funext j
  unfold reg upd
  rw [gi_si]
  by_cases e : j = k
  · rw [if_pos ⟨rfl, by omega⟩, if_pos e]
  · rw [if_neg (by omega), if_neg e]
theorem upd_s (g : Nat → Int32) (k : Nat) (v : Int32) : upd g k v k = v := by unfold upd; rw [if_pos rfl]
theorem upd_n (g : Nat → Int32) {k j : Nat} (v : Int32) (h : j ≠ k) : upd g k v j = g j := by unfold upd; rw [if_neg h]
theorem le_full {x : St} {q n L : Nat} (h3 : gi x q 3 = nI n) (h0 : gi x q 0 = nI L) (hn : n ≤ L) (hL : L < 100) : ff_LE_isFull x q = some (if n < L then 0 else 1, x) := by
  unfold ff_LE_isFull
  rw [h3, h0]
  by_cases z : n < L
  · rw [if_pos (nI_lt z (by omega)), if_pos z]
  · rw [if_neg (nI_nlt (by omega) (by omega)), if_neg z]
/-- what a ledger's new row is -/
def newRow (q w n : Nat) (v : Nat → Int32) (x y : St) : Prop := (∀ a k, ¬ (a = rf q 2 ∧ w * n ≤ k ∧ k < w * n + w) → ¬ (a = q ∧ k = 3) → gi y a k = gi x a k) ∧ (∀ a k, gl y a k = gl x a k) ∧ gi y q 3 = nI (n + 1) ∧ ∀ i, i < w → gi y (rf q 2) (w * n + i) = v i
theorem le_add3 {x : St} {q n L : Nat} {a b c : Int32} (h3 : gi x q 3 = nI n) (h0 : gi x q 0 = nI L) (h1 : gi x q 1 = 3) (hn : n < L) (hL : L < 100) (hl : 3 * n + 2 < ln (rf q 2)) (hq : rf q 2 ≠ q) : ∃ y, ff_LE_add x q a b c = some (nI n, y) ∧ newRow q 3 n (fun i => if i = 0 then a else if i = 1 then b else c) x y := by
  refine ⟨si (si (si (si x (rf q 2) (3 * n) a) (rf q 2) (3 * n + 1) b) (rf q 2) (3 * n + 2) c) q 3 (nI (n + 1)), ?_, ?_, fun _ _ => rfl, gi_si_s _ _ _ _, ?_⟩
  · have g1 : ∀ (z : St) (k : Nat) (v : Int32), gi (si z (rf q 2) k v) q 1 = gi z q 1 := fun z k v => gi_si_n _ _ _ _ (fun e => hq e.1.symm)
    have g3 : ∀ (z : St) (k : Nat) (v : Int32), gi (si z (rf q 2) k v) q 3 = gi z q 3 := fun z k v => gi_si_n _ _ _ _ (fun e => hq e.1.symm)
    unfold ff_LE_add
    rw [le_full h3 h0 (by omega) hL, bnd_some, if_pos hn, if_pos rfl, li_eq, h3, h1, show nI n * 3 = nI (3 * n) from by rw [show (3 : Int32) = nI 3 from rfl, pk_mul, Nat.mul_comm], if_pos (ixb_nI (by omega) (by omega)), st_eq, g1, h1, if_neg (by decide), nI_1, if_pos (ixb_nI (by omega) (by omega)), st_eq, ix_nI (by omega), ix_nI (by omega)]
    unfold ff_LE_add_47
    rw [g1, g1, h1, if_neg (by decide), show nI (3 * n) + 2 = nI (3 * n + 2) from nI_add _ 2, if_pos (ixb_nI (by omega) (by omega)), st_eq, ix_nI (by omega)]
    unfold ff_LE_add_65
    rw [st_eq, gi_si_s, g3, g3, g3, h3, nI_1, nI_pred]
  · intro a' k h1 h2
    rw [gi_si_n _ _ _ _ h2, gi_si_n _ _ _ _ (by omega), gi_si_n _ _ _ _ (by omega), gi_si_n _ _ _ _ (by omega)]
  · intro i hi
    rw [gi_si_n _ _ _ _ (fun e => hq e.1)]
    have : i = 0 ∨ i = 1 ∨ i = 2 := by omega
    rcases this with rfl | rfl | rfl
    · rw [gi_si_n _ _ _ _ (by omega), gi_si_n _ _ _ _ (by omega), Nat.add_zero, gi_si_s] <;> rfl
    · rw [gi_si_n _ _ _ _ (by omega), gi_si_s] <;> rfl
    · rw [gi_si_s] <;> rfl
theorem le_add2 {x : St} {q n L : Nat} {a b c : Int32} (h3 : gi x q 3 = nI n) (h0 : gi x q 0 = nI L) (h1 : gi x q 1 = 2) (hn : n < L) (hL : L < 100) (hl : 2 * n + 1 < ln (rf q 2)) (hq : rf q 2 ≠ q) : ∃ y, ff_LE_add x q a b c = some (nI n, y) ∧ newRow q 2 n (fun i => if i = 0 then a else b) x y := by
  refine ⟨si (si (si x (rf q 2) (2 * n) a) (rf q 2) (2 * n + 1) b) q 3 (nI (n + 1)), ?_, ?_, fun _ _ => rfl, gi_si_s _ _ _ _, ?_⟩
  · have g1 : ∀ (z : St) (k : Nat) (v : Int32), gi (si z (rf q 2) k v) q 1 = gi z q 1 := fun z k v => gi_si_n _ _ _ _ (fun e => hq e.1.symm)
    have g3 : ∀ (z : St) (k : Nat) (v : Int32), gi (si z (rf q 2) k v) q 3 = gi z q 3 := fun z k v => gi_si_n _ _ _ _ (fun e => hq e.1.symm)
    unfold ff_LE_add
    rw [le_full h3 h0 (by omega) hL, bnd_some, if_pos hn, if_pos rfl, li_eq, h3, h1, show nI n * 2 = nI (2 * n) from by rw [show (2 : Int32) = nI 2 from rfl, pk_mul, Nat.mul_comm], if_pos (ixb_nI (by omega) (by omega)), st_eq, g1, h1, if_neg (by decide), nI_1, if_pos (ixb_nI (by omega) (by omega)), st_eq, ix_nI (by omega), ix_nI (by omega)]
    unfold ff_LE_add_47
    rw [g1, g1, h1, if_pos (by decide)]
    unfold ff_LE_add_65
    rw [st_eq, gi_si_s, g3, g3, h3, nI_1, nI_pred]
  · intro a' k h1 h2
    rw [gi_si_n _ _ _ _ h2, gi_si_n _ _ _ _ (by omega), gi_si_n _ _ _ _ (by omega)]
  · intro i hi
    rw [gi_si_n _ _ _ _ (fun e => hq e.1)]
    have : i = 0 ∨ i = 1 := by omega
    rcases this with rfl | rfl
    · rw [gi_si_n _ _ _ _ (by omega), Nat.add_zero, gi_si_s] <;> rfl
    · rw [gi_si_s] <;> rfl
theorem le_add1 {x : St} {q n L : Nat} {a b c : Int32} (h3 : gi x q 3 = nI n) (h0 : gi x q 0 = nI L) (h1 : gi x q 1 = 1) (hn : n < L) (hL : L < 100) (hl : n < ln (rf q 2)) (hq : rf q 2 ≠ q) : ∃ y, ff_LE_add x q a b c = some (nI n, y) ∧ newRow q 1 n (fun _ => a) x y := by
  refine ⟨si (si x (rf q 2) n a) q 3 (nI (n + 1)), ?_, ?_, fun _ _ => rfl, gi_si_s _ _ _ _, ?_⟩
  · have g1 : ∀ (z : St) (k : Nat) (v : Int32), gi (si z (rf q 2) k v) q 1 = gi z q 1 := fun z k v => gi_si_n _ _ _ _ (fun e => hq e.1.symm)
    have g3 : ∀ (z : St) (k : Nat) (v : Int32), gi (si z (rf q 2) k v) q 3 = gi z q 3 := fun z k v => gi_si_n _ _ _ _ (fun e => hq e.1.symm)
    unfold ff_LE_add
    rw [le_full h3 h0 (by omega) hL, bnd_some, if_pos hn, if_pos rfl, li_eq, h3, h1, show nI n * 1 = nI n from by rw [show (1 : Int32) = nI 1 from rfl, pk_mul, Nat.mul_one], if_pos (ixb_nI (by omega) (by omega)), st_eq, g1, h1, if_pos (by decide), ix_nI (by omega)]
    unfold ff_LE_add_47
    rw [g1, h1, if_pos (by decide)]
    unfold ff_LE_add_65
    rw [st_eq, gi_si_s, g3, h3, nI_1, nI_pred]
  · intro a' k h1 h2
    rw [gi_si_n _ _ _ _ h2, gi_si_n _ _ _ _ (by omega)]
  · intro i hi
    have : i = 0 := by omega
    subst this
    rw [gi_si_n _ _ _ _ (fun e => hq e.1), Nat.add_zero, Nat.one_mul, gi_si_s]
/-- the same of the reference's region -/
def newReg (b base st cnt n : Nat) (v : Nat → Int32) (x y : St) : Prop := onlyR b x y ∧ (∀ k, ¬ (base + st * n ≤ k ∧ k < base + st * n + st) → k ≠ cnt → reg y b k = reg x b k) ∧ reg y b cnt = nI (n + 1) ∧ ∀ i, i < st → reg y b (base + st * n + i) = v i
theorem r_add3 {x : St} {b base cnt n : Nat} {v0 v1 v2 : Int32} (h2 : base + 3 * n + 3 ≤ 315) (hc : cnt < base) : newReg b base 3 cnt n (fun i => if i = 0 then v0 else if i = 1 then v1 else v2) x (si (si (si (si x 101 (b + (base + 3 * n)) v0) 101 (b + (base + 3 * n + 1)) v1) 101 (b + (base + 3 * n + 2)) v2) 101 (b + cnt) (nI (n + 1))) := by
  refine ⟨onlyR_tr (onlyR_si _ _ (by omega)) (onlyR_tr (onlyR_si _ _ (by omega)) (onlyR_tr (onlyR_si _ _ (by omega)) (onlyR_si _ _ (by omega)))), fun k h h' => ?_, ?_, fun i hi => ?_⟩
  · rw [reg_si, reg_si, reg_si, reg_si, upd_n _ _ h', upd_n _ _ (by omega), upd_n _ _ (by omega), upd_n _ _ (by omega)]
  · rw [reg_si, upd_s]
  · rw [reg_si, reg_si, reg_si, reg_si, upd_n _ _ (by omega)]
    have : i = 0 ∨ i = 1 ∨ i = 2 := by omega
    rcases this with rfl | rfl | rfl
    · rw [upd_n _ _ (by omega), upd_n _ _ (by omega), Nat.add_zero, upd_s] <;> rfl
    · rw [upd_n _ _ (by omega), upd_s] <;> rfl
    · rw [upd_s] <;> rfl
theorem m_g {x : St} {b : Nat} (h1 : gi x 100 1 = nI b) (h2 : b + 315 ≤ 1260) {k : Nat} (hk : k < 315) : ff_MO_get x 100 (nI k) = some (reg x b k, x) := m_get (MVr h1 h2) hk
theorem m_s {x : St} {b : Nat} (h1 : gi x 100 1 = nI b) (h2 : b + 315 ≤ 1260) {k : Nat} (hk : k < 315) (v : Int32) : ff_MO_set x 100 (nI k) v = some ((), si x 101 (b + k) v) := m_set (MVr h1 h2) hk v
theorem b_si {x : St} {b k : Nat} {v : Int32} (h1 : gi x 100 1 = nI b) : gi (si x 101 (b + k) v) 100 1 = nI b := h1
theorem m_addM {x : St} {b n : Nat} {v0 v1 v2 : Int32} (h1 : gi x 100 1 = nI b) (h2 : b + 315 ≤ 1260) (hr : reg x b 0 = nI n) (hn : n < 6) : ∃ y, ff_MO_addMourner x 100 v0 v1 v2 = some ((), y) ∧ newReg b 7 3 0 n (fun i => if i = 0 then v0 else if i = 1 then v1 else v2) x y := by
  refine ⟨_, ?_, r_add3 (by omega) (by omega)⟩
  unfold ff_MO_addMourner
  rw [show (0 : Int32) = nI 0 from rfl, m_g h1 h2 (by decide), bnd_some, hr, show (7 + 3 * nI n : Int32) = nI (7 + 3 * n) from lin 7 3 n, m_s h1 h2 (by omega), bnd_some, nI_1, m_s (b_si h1) h2 (by omega), bnd_some, show nI (7 + 3 * n) + 2 = nI (7 + 3 * n + 2) from nI_add _ 2, m_s (b_si (b_si h1)) h2 (by omega), bnd_some, m_g (b_si (b_si (b_si h1))) h2 (by decide), bnd_some, reg_si, reg_si, reg_si, upd_n _ _ (by omega), upd_n _ _ (by omega), upd_n _ _ (by omega), hr, nI_1, m_s (b_si (b_si (b_si h1))) h2 (by decide), bnd_some]
theorem m_addF {x : St} {b n : Nat} {v0 v1 v2 : Int32} (h1 : gi x 100 1 = nI b) (h2 : b + 315 ≤ 1260) (hr : reg x b 3 = nI n) (hn : n < 10) : ∃ y, ff_MO_addFeast x 100 v0 v1 v2 = some ((), y) ∧ newReg b 57 3 3 n (fun i => if i = 0 then v0 else if i = 1 then v1 else v2) x y := by
  refine ⟨_, ?_, r_add3 (by omega) (by omega)⟩
  unfold ff_MO_addFeast
  rw [show (3 : Int32) = nI 3 from rfl, m_g h1 h2 (by decide), bnd_some, hr, show (57 + nI 3 * nI n : Int32) = nI (57 + 3 * n) from lin 57 3 n, m_s h1 h2 (by omega), bnd_some, nI_1, m_s (b_si h1) h2 (by omega), bnd_some, show nI (57 + 3 * n) + 2 = nI (57 + 3 * n + 2) from nI_add _ 2, m_s (b_si (b_si h1)) h2 (by omega), bnd_some, m_g (b_si (b_si (b_si h1))) h2 (by decide), bnd_some, reg_si, reg_si, reg_si, upd_n _ _ (by omega), upd_n _ _ (by omega), upd_n _ _ (by omega), hr, nI_1, m_s (b_si (b_si (b_si h1))) h2 (by decide), bnd_some]
theorem m_addP {x : St} {b n : Nat} {v0 v1 : Int32} (h1 : gi x 100 1 = nI b) (h2 : b + 315 ≤ 1260) (hr : reg x b 2 = nI n) (hn : n < 4) : ∃ y, ff_MO_addPiece x 100 v0 v1 = some ((), y) ∧ newReg b 49 2 2 n (fun i => if i = 0 then v0 else v1) x y := by
  refine ⟨si (si (si x 101 (b + (49 + 2 * n)) v0) 101 (b + (49 + 2 * n + 1)) v1) 101 (b + 2) (nI (n + 1)), ?_, onlyR_tr (onlyR_si _ _ (by omega)) (onlyR_tr (onlyR_si _ _ (by omega)) (onlyR_si _ _ (by omega))), fun k h h' => ?_, ?_, fun i hi => ?_⟩
  · unfold ff_MO_addPiece
    rw [show (2 : Int32) = nI 2 from rfl, m_g h1 h2 (by decide), bnd_some, hr, show (49 + nI 2 * nI n : Int32) = nI (49 + 2 * n) from lin 49 2 n, m_s h1 h2 (by omega), bnd_some, nI_1, m_s (b_si h1) h2 (by omega), bnd_some, m_g (b_si (b_si h1)) h2 (by decide), bnd_some, reg_si, reg_si, upd_n _ _ (by omega), upd_n _ _ (by omega), hr, nI_1, m_s (b_si (b_si h1)) h2 (by decide), bnd_some]
  · rw [reg_si, reg_si, reg_si, upd_n _ _ h', upd_n _ _ (by omega), upd_n _ _ (by omega)]
  · rw [reg_si, upd_s]
  · rw [reg_si, reg_si, reg_si, upd_n _ _ (by omega)]
    have : i = 0 ∨ i = 1 := by omega
    rcases this with rfl | rfl
    · rw [upd_n _ _ (by omega), Nat.add_zero, upd_s] <;> rfl
    · rw [upd_s] <;> rfl
theorem m_addJ {x : St} {b n : Nat} {v0 : Int32} (h1 : gi x 100 1 = nI b) (h2 : b + 315 ≤ 1260) (hr : reg x b 1 = nI n) (hn : n < 6) : ∃ y, ff_MO_addJoint x 100 v0 = some ((), y) ∧ newReg b 25 4 1 n (fun i => if i = 0 then v0 else -1) x y := by
  refine ⟨si (si (si (si (si x 101 (b + (25 + 4 * n)) v0) 101 (b + (25 + 4 * n + 1)) (-1)) 101 (b + (25 + 4 * n + 2)) (-1)) 101 (b + (25 + 4 * n + 3)) (-1)) 101 (b + 1) (nI (n + 1)), ?_, onlyR_tr (onlyR_si _ _ (by omega)) (onlyR_tr (onlyR_si _ _ (by omega)) (onlyR_tr (onlyR_si _ _ (by omega)) (onlyR_tr (onlyR_si _ _ (by omega)) (onlyR_si _ _ (by omega))))), fun k h h' => ?_, ?_, fun i hi => ?_⟩
  · unfold ff_MO_addJoint
    rw [show (1 : Int32) = nI 1 from rfl, m_g h1 h2 (by decide), bnd_some, hr, show (25 + 4 * nI n : Int32) = nI (25 + 4 * n) from lin 25 4 n, m_s h1 h2 (by omega), bnd_some, nI_add, m_s (b_si h1) h2 (by omega), bnd_some, show nI (25 + 4 * n) + 2 = nI (25 + 4 * n + 2) from nI_add _ 2, m_s (b_si (b_si h1)) h2 (by omega), bnd_some, show nI (25 + 4 * n) + 3 = nI (25 + 4 * n + 3) from nI_add _ 3, m_s (b_si (b_si (b_si h1))) h2 (by omega), bnd_some, m_g (b_si (b_si (b_si (b_si h1)))) h2 (by decide), bnd_some, reg_si, reg_si, reg_si, reg_si, upd_n _ _ (by omega), upd_n _ _ (by omega), upd_n _ _ (by omega), upd_n _ _ (by omega), hr, nI_add, m_s (b_si (b_si (b_si (b_si h1)))) h2 (by decide), bnd_some]
  · rw [reg_si, reg_si, reg_si, reg_si, reg_si, upd_n _ _ h', upd_n _ _ (by omega), upd_n _ _ (by omega), upd_n _ _ (by omega), upd_n _ _ (by omega)]
  · rw [reg_si, upd_s]
  · rw [reg_si, reg_si, reg_si, reg_si, reg_si, upd_n _ _ (by omega)]
    have : i = 0 ∨ i = 1 ∨ i = 2 ∨ i = 3 := by omega
    rcases this with rfl | rfl | rfl | rfl
    · rw [upd_n _ _ (by omega), upd_n _ _ (by omega), upd_n _ _ (by omega), Nat.add_zero, upd_s] <;> rfl
    · rw [upd_n _ _ (by omega), upd_n _ _ (by omega), upd_s] <;> rfl
    · rw [upd_n _ _ (by omega), upd_s] <;> rfl
    · rw [upd_s] <;> rfl
