/-! the class's own constructor -/
def XGG (E : Ev) (h0 : Nat) (ws : va_W) : Prop := ∃ ad : Nat → Nat, ad 0 = h0 ∧ ws = wl E.2.1 ad ixC c0
theorem sp16 : sp 16 := Or.inl rfl
theorem sp36 : sp 36 := Or.inr (Or.inl rfl)
theorem sp56 : sp 56 := Or.inr (Or.inr (Or.inl rfl))
def jsG : List Nat := 0 :: 1 :: (List.range' 16 20 ++ (List.range' 36 20 ++ (List.range' 56 20 ++ ([2] ++ (([3, 4] ++ List.range' 76 20) ++ (List.range' 5 4 ++ List.range' 9 7))))))
theorem jsG_p : jsG.Perm ixC := by decide +kernel
/-- the whole of it -/
theorem XGG_ok {E : Ev} {A : Nat → Prop} {H : Heap} {h0 im kp : Nat} {ad1 ad2 ad3 ad4 ad5 ad6 : Nat → Nat} (hA1 : ∀ q, ¬ (16 ≤ q ∧ q < 36) → ad1 q = h0) (hA2 : ∀ q, ¬ (36 ≤ q ∧ q < 56) → ad2 q = adB 1 1 [im] ad1 q) (hA3 : ∀ q, ¬ (56 ≤ q ∧ q < 76) → ad3 q = ad2 q) (hA4 : ∀ q, ¬ (q = 3 ∨ q = 4 ∨ (76 ≤ q ∧ q < 96)) → ad4 q = adB 2 1 [kp] ad3 q) (hA5 : ∀ q, ¬ (5 ≤ q ∧ q < 9) → ad5 q = ad4 q) (hA6 : ∀ q, ¬ (9 ≤ q ∧ q < 16) → ad6 q = ad5 q)
    (hP : va_P E.1 vcl ((h0, .inr (5, [.ref (ad1 16), .ref im, .ref kp, .ref (ad4 3), .ref (ad5 5), .ref (ad6 9), .long 0, .long 1, .int 0, .int 0, .int 0])) :: (im, .inl (E.2.1 4, 2, .inr (.inr (.inr (.inr (va_up (va_up (fun _ => none) 0 (some (ad2 36))) 1 (some (ad3 56)))))))) :: (wl E.2.1 ad1 (List.range' 16 20) c0 ++ (wl E.2.1 ad2 (List.range' 36 20) c0 ++ (wl E.2.1 ad3 (List.range' 56 20) c0 ++ ([(kp, .inl (E.2.1 2, 2, .inl (fun _ => 0)))] ++ ((wl E.2.1 ad4 [3, 4] c0 ++ wl E.2.1 ad4 (List.range' 76 20) c0) ++ (wl E.2.1 ad5 (List.range' 5 4) c0 ++ wl E.2.1 ad6 (List.range' 9 7) c0))))))) H)
    (hD : va_D A ((h0, .inr (5, [.ref (ad1 16), .ref im, .ref kp, .ref (ad4 3), .ref (ad5 5), .ref (ad6 9), .long 0, .long 1, .int 0, .int 0, .int 0])) :: (im, .inl (E.2.1 4, 2, .inr (.inr (.inr (.inr (va_up (va_up (fun _ => none) 0 (some (ad2 36))) 1 (some (ad3 56)))))))) :: (wl E.2.1 ad1 (List.range' 16 20) c0 ++ (wl E.2.1 ad2 (List.range' 36 20) c0 ++ (wl E.2.1 ad3 (List.range' 56 20) c0 ++ ([(kp, .inl (E.2.1 2, 2, .inl (fun _ => 0)))] ++ ((wl E.2.1 ad4 [3, 4] c0 ++ wl E.2.1 ad4 (List.range' 76 20) c0) ++ (wl E.2.1 ad5 (List.range' 5 4) c0 ++ wl E.2.1 ad6 (List.range' 9 7) c0))))))))
    : ad6 0 = h0 ∧ va_P E.1 vcl (wl E.2.1 ad6 ixC c0) H ∧ va_D A (wl E.2.1 ad6 ixC c0) := by
  have f2 : ∀ q, ¬ q = 1 → ¬ (36 ≤ q ∧ q < 56) → ad2 q = ad1 q := fun q h1 h2 => by
    rw [hA2 q h2]; unfold adB; rw [if_neg (by omega)]
  have f4 : ∀ q, ¬ q = 2 → ¬ (q = 3 ∨ q = 4 ∨ (76 ≤ q ∧ q < 96)) → ad4 q = ad3 q := fun q h1 h2 => by
    rw [hA4 q h2]; unfold adB; rw [if_neg (by omega)]
  have g1 : ∀ q, (q = 0 ∨ (16 ≤ q ∧ q < 36)) → ad6 q = ad1 q := fun q h => by rw [hA6 q (by omega), hA5 q (by omega), f4 q (by omega) (by omega), hA3 q (by omega), f2 q (by omega) (by omega)]
  have g2 : ∀ q, (q = 0 ∨ (36 ≤ q ∧ q < 56)) → ad6 q = ad2 q := fun q h => by rw [hA6 q (by omega), hA5 q (by omega), f4 q (by omega) (by omega), hA3 q (by omega)]
  have g3 : ∀ q, (q = 0 ∨ (56 ≤ q ∧ q < 76)) → ad6 q = ad3 q := fun q h => by rw [hA6 q (by omega), hA5 q (by omega), f4 q (by omega) (by omega)]
  have g4 : ∀ q, (q = 0 ∨ q = 2 ∨ q = 3 ∨ q = 4 ∨ (76 ≤ q ∧ q < 96)) → ad6 q = ad4 q := fun q h => by rw [hA6 q (by omega), hA5 q (by omega)]
  have g5 : ∀ q, (q = 0 ∨ (5 ≤ q ∧ q < 9)) → ad6 q = ad5 q := fun q h => by rw [hA6 q (by omega)]
  have e0 : ad6 0 = h0 := (g1 0 (by omega)).trans (hA1 0 (by omega))
  have e1 : ad6 1 = im := by rw [hA6 1 (by omega), hA5 1 (by omega), f4 1 (by omega) (by omega), hA3 1 (by omega), hA2 1 (by omega)]; rfl
  have e2 : ad6 2 = kp := by rw [hA6 2 (by omega), hA5 2 (by omega), hA4 2 (by omega)]; rfl
  have w1 : wl E.2.1 ad1 (List.range' 16 20) c0 = wl E.2.1 ad6 (List.range' 16 20) c0 := wl_cg (fun q hq => by
    obtain ⟨b1, b2⟩ := blk_16 q hq
    rw [List.mem_range'_1] at hq
    exact ⟨(g1 q (by omega)).symm, fun k => (g1 _ (rf_blk b1 b2 k)).symm⟩)
  have w2 : wl E.2.1 ad2 (List.range' 36 20) c0 = wl E.2.1 ad6 (List.range' 36 20) c0 := wl_cg (fun q hq => by
    obtain ⟨b1, b2⟩ := blk_36 q hq
    rw [List.mem_range'_1] at hq
    exact ⟨(g2 q (by omega)).symm, fun k => (g2 _ (rf_blk b1 b2 k)).symm⟩)
  have w3 : wl E.2.1 ad3 (List.range' 56 20) c0 = wl E.2.1 ad6 (List.range' 56 20) c0 := wl_cg (fun q hq => by
    obtain ⟨b1, b2⟩ := blk_56 q hq
    rw [List.mem_range'_1] at hq
    exact ⟨(g3 q (by omega)).symm, fun k => (g3 _ (rf_blk b1 b2 k)).symm⟩)
  have w4 : wl E.2.1 ad4 (List.range' 76 20) c0 = wl E.2.1 ad6 (List.range' 76 20) c0 := wl_cg (fun q hq => by
    obtain ⟨b1, b2⟩ := blk_76 q hq
    rw [List.mem_range'_1] at hq
    refine ⟨(g4 q (by omega)).symm, fun k => (g4 _ ?_).symm⟩
    have := rf_blk b1 b2 k
    omega)
  have w4' : wl E.2.1 ad4 [3, 4] c0 = wl E.2.1 ad6 [3, 4] c0 := wl_cg (fun q hq => by
    obtain ⟨b1, b2⟩ := blk_3 q hq
    simp at hq
    refine ⟨(g4 q (by omega)).symm, fun k => (g4 _ ?_).symm⟩
    by_cases z : k < 11
    · have := b2 k z
      omega
    · exact Or.inl (rf_far b1 (by omega)))
  have w5 : wl E.2.1 ad5 (List.range' 5 4) c0 = wl E.2.1 ad6 (List.range' 5 4) c0 := wl_cg (fun q hq => by
    obtain ⟨b1, b2⟩ := blk_5 q hq
    rw [List.mem_range'_1] at hq
    exact ⟨(g5 q (by omega)).symm, fun k => (g5 _ (rf_blk b1 b2 k)).symm⟩)
  have hat : va_at E.1 vcl (im, .inl (E.2.1 4, 2, .inr (.inr (.inr (.inr (fun i => some (ad6 (rf 1 i)))))))) H := by
    have h := hP 1 _ rfl
    have h2 : H[im]? = some (vp_cell (E.2.1 4) (2, .inr (.inr (.inr (.inr (va_up (va_up (fun _ => none) 0 (some (ad2 36))) 1 (some (ad3 56)))))))) := h
    show H[im]? = some (vp_cell (E.2.1 4) (2, .inr (.inr (.inr (.inr (fun i => some (ad6 (rf 1 i))))))))
    rw [h2, vp_cell_q, vp_cell_q]
    unfold arrV
    congr 3
    funext j
    show va_rf (va_up (va_up (fun _ => none) 0 (some (ad2 36))) 1 (some (ad3 56)) j.val) = va_rf (some (ad6 (rf 1 j.val)))
    congr 1
    have hj := j.isLt
    have : j.val = 0 ∨ j.val = 1 := by omega
    rcases this with z | z
    · rw [z, show rf 1 0 = 36 from rfl, g2 36 (by omega)]; rfl
    · rw [z, show rf 1 1 = 56 from rfl, g3 56 (by omega)]; rfl
  obtain ⟨hP, hD⟩ := P_upd (w1 := [(h0, .inr (5, [.ref (ad1 16), .ref im, .ref kp, .ref (ad4 3), .ref (ad5 5), .ref (ad6 9), .long 0, .long 1, .int 0, .int 0, .int 0]))]) hP hD (fun _ _ _ => rfl) hat
  rw [w1, w2, w3, w4, w4', w5, ← g1 16 (by omega), ← g4 3 (by omega), ← g5 5 (by omega)] at hP hD
  have hl : ∀ z, z = wl E.2.1 ad6 jsG c0 → va_P E.1 vcl z H → va_D A z → va_P E.1 vcl (wl E.2.1 ad6 ixC c0) H ∧ va_D A (wl E.2.1 ad6 ixC c0) := fun z hz h1 h2 => by
    subst hz
    exact ⟨P_perm h1 (jsG_p.map _), D_perm h2 (jsG_p.map _)⟩
  refine ⟨e0, hl _ ?_ hP hD⟩
  have er : wl E.2.1 ad6 jsG c0 = (ad6 0, .inr (5, [.ref (ad6 16), .ref (ad6 1), .ref (ad6 2), .ref (ad6 3), .ref (ad6 5), .ref (ad6 9), .long 0, .long 1, .int 0, .int 0, .int 0])) :: (ad6 1, .inl (E.2.1 4, 2, .inr (.inr (.inr (.inr (fun i => some (ad6 (rf 1 i)))))))) :: (wl E.2.1 ad6 (List.range' 16 20) c0 ++ (wl E.2.1 ad6 (List.range' 36 20) c0 ++ (wl E.2.1 ad6 (List.range' 56 20) c0 ++ ([(ad6 2, .inl (E.2.1 2, 2, .inl (fun _ => 0)))] ++ ((wl E.2.1 ad6 [3, 4] c0 ++ wl E.2.1 ad6 (List.range' 76 20) c0) ++ (wl E.2.1 ad6 (List.range' 5 4) c0 ++ wl E.2.1 ad6 (List.range' 9 7) c0)))))) := rfl
  rw [er, e0, e1, e2]
  rfl
