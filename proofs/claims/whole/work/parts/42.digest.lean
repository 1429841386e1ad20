theorem m_row {x : St} {b base n : Nat} {g : Nat → Int32} (hn : base + n ≤ 315) (hV : MV x b g) : ∃ y, ff_MO_digestRow x 100 (nI base) (nI n) = some ((), y) ∧ onlyD x y ∧ gl y 100 22 = dg g base n (gl x 100 22) := by
  unfold ff_MO_digestRow
  exact m_dgL hn n FU base x rfl (by unfold FU; omega) hV
theorem onlyD_tr {x y z : St} (h1 : onlyD x y) (h2 : onlyD y z) : onlyD x z := ⟨fun a k => (h2.1 a k).trans (h1.1 a k), fun a k h => (h2.2 a k h).trans (h1.2 a k h)⟩
theorem onlyD_sl (x : St) (v : Int64) : onlyD x (sl x 100 22 v) := ⟨fun _ _ => rfl, fun a k h => by rw [gl_sl, if_neg h]⟩
theorem MV_D {x y : St} {b : Nat} {g : Nat → Int32} (h : MV x b g) (o : onlyD x y) : MV y b g := ⟨by rw [o.1]; exact h.1, h.2.1, fun k hk => by rw [o.1]; exact h.2.2 k hk⟩
theorem c_dg6 {c m : St} (h : Rel c m) : ∀ (r N k : Nat) (a : Int64), k + r = 8 → r < N → ff_GG_digest_6 N c 0 a (nI k) = ff_GG_digest_31 c 0 (dg (fun i => if i = 7 then gi m 100 7 else reg m 0 i) k r a) := by
  intro r
  induction r with
  | zero =>
    intro N k a hk hN
    obtain ⟨N, rfl⟩ : ∃ K, N = K + 1 := ⟨N - 1, by omega⟩
    show (if (7 : Int32) < nI k then _ else _) = _
    rw [if_pos (show (7 : Int32) < nI k from nI_lt (a := 7) (by omega) (by omega))]; rfl
  | succ r ih =>
    intro N k a hk hN
    obtain ⟨N, rfl⟩ : ∃ K, N = K + 1 := ⟨N - 1, by omega⟩
    show (if (7 : Int32) < nI k then _ else _) = _
    rw [if_neg (show ¬ (7 : Int32) < nI k from nI_nlt (b := k) (a := 7) (by omega) (by decide)), c_countOf h (by omega), bnd_some, lj_eq, nI_1, ih N (k + 1) _ (by omega) (by omega)]; rfl
theorem dg_cg {g g' : Nat → Int32} : ∀ (n b : Nat) (a : Int64), (∀ i, b ≤ i → i < b + n → g' i = g i) → dg g' b n a = dg g b n a
  | 0, _, _, _ => rfl
  | n + 1, b, a, h => by
    show dg g' (b + 1) n (31 * a + (g' b).toInt64) = dg g (b + 1) n (31 * a + (g b).toInt64)
    rw [h b (by omega) (by omega), dg_cg n (b + 1) _ (fun i h1 h2 => h i (by omega) (by omega))]
theorem s_digest {c m : St} (h : Rel c m) : Sim (ff_GG_digest c 0) (ff_MO_digest m 100) := by
  have hV := Rel_MV h
  obtain ⟨-, ⟨b1, b2⟩, -, -, -, -, ⟨hI, hR⟩, -⟩ := id h
  obtain ⟨z0, z1, z2, z3, z4, z5, z6⟩ := hR.1.2.1
  obtain ⟨h0, h1, h2, h3, h4⟩ := hR.1.2.2.1
  have r0 := hI.1.1
  have r1 := hI.1.2.1
  have r2 := hI.1.2.2.1
  have r3 := hI.1.2.2.2.1
  have r4 := hI.1.2.2.2.2.1
  have r02 := r0.2
  have r12 := r1.2
  have r22 := r2.2
  have r32 := r3.2
  have r42 := r4.2
  have hl := hR.1.1
  obtain ⟨ya, a1, a2, a3⟩ := m_row (base := 0) (n := 7) (by omega) (MV_D hV (onlyD_sl m 797))
  have ma : onlyD m ya := onlyD_tr (onlyD_sl _ _) a2
  have md : onlyD m (sl ya 100 22 (31 * gl ya 100 22 + (gi ya 100 7).toInt64)) := onlyD_tr ma (onlyD_sl _ _)
  obtain ⟨yb, p1, p2, p3⟩ := m_row (base := 7) (n := 3 * ix (reg m 0 0)) (by omega) (MV_D hV md)
  have mb := onlyD_tr md p2
  obtain ⟨yc, q1, q2, q3⟩ := m_row (base := 25) (n := 4 * ix (reg m 0 1)) (by omega) (MV_D hV mb)
  have mc := onlyD_tr mb q2
  obtain ⟨yd, s1, s2, s3⟩ := m_row (base := 49) (n := 2 * ix (reg m 0 2)) (by omega) (MV_D hV mc)
  have me := onlyD_tr mc s2
  obtain ⟨ye, t1, t2, t3⟩ := m_row (base := 57) (n := 3 * ix (reg m 0 3)) (by omega) (MV_D hV me)
  have mf := onlyD_tr me t2
  obtain ⟨yf, u1, u2, u3⟩ := m_row (base := 87) (n := 3 * ix (reg m 0 4)) (by omega) (MV_D hV mf)
  have mg := onlyD_tr mf u2
  have gg : ∀ (x : St) (k : Nat), onlyD m x → k < 5 → ∀ M, rg M (reg m 0 k) → ff_MO_get x 100 (nI k) = some (nI (ix (reg m 0 k)), x) := fun x k hx hk M hr => m_getN (MV_D hV hx) (by omega) hr
  have c6 : ff_GG_digest_6 FU c 0 797 0 = ff_GG_digest_31 c 0 (dg (fun i => if i = 7 then gi m 100 7 else reg m 0 i) 0 8 797) := c_dg6 h 8 FU 0 797 (by omega) (by unfold FU; omega)
  have w1 : gl (sl ya 100 22 (31 * gl ya 100 22 + (gi ya 100 7).toInt64)) 100 22 = dg (fun i => if i = 7 then gi m 100 7 else reg m 0 i) 0 8 797 := by
    rw [gl_sl, if_pos ⟨rfl, rfl⟩, a3, ma.1, show (8 : Nat) = 7 + 1 from rfl, dg_add, dg_cg (g := reg m 0) 7 0 797 (fun i _ hi => by rw [if_neg (by omega)])]; rfl
  refine ⟨31 * (31 * gl yf 100 22 + gl m 100 4) + gl m 100 5, c, sl yf 100 22 (31 * gl yf 100 22 + gl yf 100 4), ?_, ?_, ?_⟩
  · unfold ff_GG_digest
    rw [c6]
    unfold ff_GG_digest_31 ff_LE_mixInto ff_SH_mixJointsInto
    have x0 : ff_LE_mixInto_5 FU c (rf (rf 0 0) 0) (dg (fun i => if i = 7 then gi m 100 7 else reg m 0 i) 0 8 797) 0 = some (gl yb 100 22, c) := by
      rw [p3, w1]
      have := c_mixL (x := c) (q := 17) (w := 3) (n := ix (reg m 0 0)) (base := 7) (g := reg m 0) (z0.trans r0.1) hl.1.2 (by omega) (by show _ ≤ 18; omega) (fun i hi => h0 i (by omega)) (ix (reg m 0 0) * 3) FU 0 (dg (fun i => if i = 7 then gi m 100 7 else reg m 0 i) 0 8 797) (by omega) (by unfold FU; omega)
      rw [Nat.mul_comm (ix (reg m 0 0)) 3] at this
      exact this
    have x1 : ff_SH_mixJointsInto_5 FU c (rf 0 0) (gl yb 100 22) 0 = some (gl yc 100 22, c) := by
      rw [q3]
      exact c_mixJ hI hR.1 (ix (reg m 0 1)) FU 0 _ (by omega) (by unfold FU; omega)
    have x2 : ff_LE_mixInto_5 FU c (rf (rf 0 0) 2) (gl yc 100 22) 0 = some (gl yd 100 22, c) := by
      rw [s3]
      have := c_mixL (x := c) (q := 21) (w := 2) (n := ix (reg m 0 2)) (base := 49) (g := reg m 0) (z2.trans r2.1) hl.2.2.1.2 (by omega) (by show _ ≤ 8; omega) (fun i hi => h2 i (by omega)) (ix (reg m 0 2) * 2) FU 0 (gl yc 100 22) (by omega) (by unfold FU; omega)
      rw [Nat.mul_comm (ix (reg m 0 2)) 2] at this
      exact this
    have x3 : ff_LE_mixInto_5 FU c (rf (rf 0 0) 3) (gl yd 100 22) 0 = some (gl ye 100 22, c) := by
      rw [t3]
      have := c_mixL (x := c) (q := 23) (w := 3) (n := ix (reg m 0 3)) (base := 57) (g := reg m 0) (z3.trans r3.1) hl.2.2.2.1.2 (by omega) (by show _ ≤ 30; omega) (fun i hi => h3 i (by omega)) (ix (reg m 0 3) * 3) FU 0 (gl yd 100 22) (by omega) (by unfold FU; omega)
      rw [Nat.mul_comm (ix (reg m 0 3)) 3] at this
      exact this
    have x4 : ff_LE_mixInto_5 FU c (rf (rf 0 0) 4) (gl ye 100 22) 0 = some (gl yf 100 22, c) := by
      rw [u3]
      have := c_mixL (x := c) (q := 25) (w := 3) (n := ix (reg m 0 4)) (base := 87) (g := reg m 0) (z4.trans r4.1) hl.2.2.2.2.2 (by omega) (by show _ ≤ 18; omega) (fun i hi => h4 i (by omega)) (ix (reg m 0 4) * 3) FU 0 (gl ye 100 22) (by omega) (by unfold FU; omega)
      rw [Nat.mul_comm (ix (reg m 0 4)) 3] at this
      exact this
    rw [x0, bnd_some, x1, bnd_some, x2, bnd_some, x3, bnd_some, x4, bnd_some, lj_eq, b1, b2]
  · unfold ff_MO_digest
    have e4 : gl yf 100 4 = gl m 100 4 := mg.2 _ _ (by omega)
    have e5 : gl yf 100 5 = gl m 100 5 := mg.2 _ _ (by omega)
    rw [st_eq, show ff_MO_digestRow (sl m 100 22 797) 100 0 7 = some ((), ya) from a1, bnd_some, st_eq, show ff_MO_get (sl ya 100 22 (31 * gl ya 100 22 + (gi ya 100 7).toInt64)) 100 0 = _ from gg _ 0 md (by omega) 6 r0, bnd_some, show (3 * nI (ix (reg m 0 0)) : Int32) = nI (3 * ix (reg m 0 0)) from pk_mul 3 _, show ff_MO_digestRow (sl ya 100 22 (31 * gl ya 100 22 + (gi ya 100 7).toInt64)) 100 7 (nI (3 * ix (reg m 0 0))) = some ((), yb) from p1, bnd_some, show ff_MO_get yb 100 1 = _ from gg _ 1 mb (by omega) 6 r1, bnd_some, show (4 * nI (ix (reg m 0 1)) : Int32) = nI (4 * ix (reg m 0 1)) from pk_mul 4 _, show ff_MO_digestRow yb 100 25 (nI (4 * ix (reg m 0 1))) = some ((), yc) from q1, bnd_some, show ff_MO_get yc 100 2 = _ from gg _ 2 mc (by omega) 4 r2, bnd_some, show (2 * nI (ix (reg m 0 2)) : Int32) = nI (2 * ix (reg m 0 2)) from pk_mul 2 _, show ff_MO_digestRow yc 100 49 (nI (2 * ix (reg m 0 2))) = some ((), yd) from s1, bnd_some, show ff_MO_get yd 100 3 = _ from gg _ 3 me (by omega) 10 r3, bnd_some, show (3 * nI (ix (reg m 0 3)) : Int32) = nI (3 * ix (reg m 0 3)) from pk_mul 3 _, show ff_MO_digestRow yd 100 57 (nI (3 * ix (reg m 0 3))) = some ((), ye) from t1, bnd_some, show ff_MO_get ye 100 4 = _ from gg _ 4 mf (by omega) 6 r4, bnd_some, show (3 * nI (ix (reg m 0 4)) : Int32) = nI (3 * ix (reg m 0 4)) from pk_mul 3 _, show ff_MO_digestRow ye 100 87 (nI (3 * ix (reg m 0 4))) = some ((), yf) from u1, bnd_some, st_eq, gl_sl, if_pos ⟨rfl, rfl⟩, gl_sl, if_neg (by omega), e4, e5]
  · have mz := onlyD_tr mg (onlyD_sl yf (31 * gl yf 100 22 + gl yf 100 4))
    exact Rel_fr h (fun _ _ _ => rfl) (fun _ => rfl) (fun a k _ => mz.1 a k) (fun k hk => mz.2 _ _ (by omega))
