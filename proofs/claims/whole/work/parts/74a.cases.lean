theorem lg_cmp_self (r : Int64) : lg_cmp r r = 0 := by
  unfold lg_cmp
  rw [if_neg (Int64.lt_irrefl), if_pos rfl]
set_option maxHeartbeats 4000000 in
set_option maxRecDepth 100000 in
theorem law_0 {p : Program} {l : Launch} {e : Env} {s : State} {m : MethodId} {below : List Frame} {meth : Method} {c : Code} {H : Heap} {locs : List Loc} {Q : State → Prop} {ls : Array Slot} {E : Ev} {adC adM : Nat → Nat} {b L : Nat} {xs : Nat → Int32} {x y : St} (hX : LX E adC adM b L xs p s m meth c) {i : Nat} (hi : i + 5 ≤ L) (hrel : Rel x y) (hc : Wd E adC ixC x H) (hm : Wd E adM ixM y H) (hS : va_S (fun q => s.heap.size ≤ q) s.heap H locs) (hl : lv_has ls 4 [(0, .ref b), (1, .ref (adC 0)), (2, .ref (adM 100)), (3, .int (nI i))])
    (kk : ∀ x' y' H1 locs1, Rel x' y' → Wd E adC ixC x' H1 → Wd E adM ixM y' H1 → va_S (fun q => s.heap.size ≤ q) s.heap H1 locs1 → W p l e room_1 s m #[Value.ref b] below meth c H1 locs1 600000 7302250 Q (F0 m 990 ls [])) : W p l e room_1 s m #[Value.ref b] below meth c H locs 600000 7302250 Q (F0 m 168 ls []) := by
  obtain ⟨C0, hXX, hbl, hap, hapM, h3, h4, h5, hL⟩ := id hX
  obtain ⟨hx, hb, hml, hr, hown, hts, hlk, hK⟩ := id C0
  obtain ⟨r, x', y', e1, e2, hrel'⟩ := s_mourner hrel (xs (i + 1)) (xs (i + 2)) (xs (i + 3))
  refine lv_aload_n hx hb dl_168 rfl (lv_at hl 1 rfl) ?_
  refine argL hX hS (k := 1) (by omega) hl dl_169 dl_170 dl_171 (by decide) dl_172 dl_173 ?_
  refine argL hX hS (k := 2) (by omega) hl dl_174 dl_175 dl_176 (by decide) dl_177 dl_178 ?_
  refine argL hX hS (k := 3) (by omega) hl dl_179 dl_180 dl_181 (by decide) dl_182 dl_183 ?_
  refine lcC (As := [.int (xs (i + 1)), .int (xs (i + 2)), .int (xs (i + 3))]) (rest := []) (n := 3) hX (cc_GG_mourner hap ⟨by decide, rfl⟩ e1) hc hm hS gw_code_GG_mourner gw_m_LA_13 gw_inst_GG_mourner gw_sel_GG_mourner gw_ini_GG rfl rfl (by decide +kernel) rfl ⟨Nat.le_of_ble_eq_true rfl, Nat.le_of_ble_eq_true rfl⟩ hl.1 rfl (Nat.le_of_ble_eq_true rfl) dl_184 (fun H locs hc hm hS => ?_)
  refine lv_aload_n hx hb dl_187 rfl (lv_at hl 2 rfl) ?_
  refine argL hX hS (k := 1) (by omega) hl dl_188 dl_189 dl_190 (by decide) dl_191 dl_192 ?_
  refine argL hX hS (k := 2) (by omega) hl dl_193 dl_194 dl_195 (by decide) dl_196 dl_197 ?_
  refine argL hX hS (k := 3) (by omega) hl dl_198 dl_199 dl_200 (by decide) dl_201 dl_202 ?_
  refine lcM (As := [.int (xs (i + 1)), .int (xs (i + 2)), .int (xs (i + 3))]) (rest := [.int r]) (n := 3) hX (cc_MO_mourner hapM ⟨by decide, rfl⟩ e2) hm hc hS gw_code_MO_mourner gw_m_LA_17 gw_inst_MO_mourner gw_sel_MO_mourner gw_ini_MO rfl rfl (by decide +kernel) rfl ⟨Nat.le_of_ble_eq_true rfl, Nat.le_of_ble_eq_true rfl⟩ hl.1 rfl (Nat.le_of_ble_eq_true rfl) dl_203 (fun H locs hm hc hS => ?_)
  exact lv_icmp_eq (tgt := 990) hx hb dl_206 (by decide) (fun _ => kk _ _ _ _ hrel' hc hm hS) (fun h => absurd rfl h)
set_option maxHeartbeats 4000000 in
set_option maxRecDepth 100000 in
theorem law_1 {p : Program} {l : Launch} {e : Env} {s : State} {m : MethodId} {below : List Frame} {meth : Method} {c : Code} {H : Heap} {locs : List Loc} {Q : State → Prop} {ls : Array Slot} {E : Ev} {adC adM : Nat → Nat} {b L : Nat} {xs : Nat → Int32} {x y : St} (hX : LX E adC adM b L xs p s m meth c) {i : Nat} (hi : i + 5 ≤ L) (hrel : Rel x y) (hc : Wd E adC ixC x H) (hm : Wd E adM ixM y H) (hS : va_S (fun q => s.heap.size ≤ q) s.heap H locs) (hl : lv_has ls 4 [(0, .ref b), (1, .ref (adC 0)), (2, .ref (adM 100)), (3, .int (nI i))])
    (kk : ∀ x' y' H1 locs1, Rel x' y' → Wd E adC ixC x' H1 → Wd E adM ixM y' H1 → va_S (fun q => s.heap.size ≤ q) s.heap H1 locs1 → W p l e room_1 s m #[Value.ref b] below meth c H1 locs1 600000 7302250 Q (F0 m 990 ls [])) : W p l e room_1 s m #[Value.ref b] below meth c H locs 600000 7302250 Q (F0 m 211 ls []) := by
  obtain ⟨C0, hXX, hbl, hap, hapM, h3, h4, h5, hL⟩ := id hX
  obtain ⟨hx, hb, hml, hr, hown, hts, hlk, hK⟩ := id C0
  obtain ⟨r, x', y', e1, e2, hrel'⟩ := s_joint hrel (xs (i + 1))
  refine lv_aload_n hx hb dl_211 rfl (lv_at hl 1 rfl) ?_
  refine argL hX hS (k := 1) (by omega) hl dl_212 dl_213 dl_214 (by decide) dl_215 dl_216 ?_
  refine lcC (As := [.int (xs (i + 1))]) (rest := []) (n := 1) hX (cc_GG_joint hap ⟨by decide, rfl⟩ e1) hc hm hS gw_code_GG_joint gw_m_LA_18 gw_inst_GG_joint gw_sel_GG_joint gw_ini_GG rfl rfl (by decide +kernel) rfl ⟨Nat.le_of_ble_eq_true rfl, Nat.le_of_ble_eq_true rfl⟩ hl.1 rfl (Nat.le_of_ble_eq_true rfl) dl_217 (fun H locs hc hm hS => ?_)
  refine lv_aload_n hx hb dl_220 rfl (lv_at hl 2 rfl) ?_
  refine argL hX hS (k := 1) (by omega) hl dl_221 dl_222 dl_223 (by decide) dl_224 dl_225 ?_
  refine lcM (As := [.int (xs (i + 1))]) (rest := [.int r]) (n := 1) hX (cc_MO_joint hapM ⟨by decide, rfl⟩ e2) hm hc hS gw_code_MO_joint gw_m_LA_22 gw_inst_MO_joint gw_sel_MO_joint gw_ini_MO rfl rfl (by decide +kernel) rfl ⟨Nat.le_of_ble_eq_true rfl, Nat.le_of_ble_eq_true rfl⟩ hl.1 rfl (Nat.le_of_ble_eq_true rfl) dl_226 (fun H locs hm hc hS => ?_)
  exact lv_icmp_eq (tgt := 990) hx hb dl_229 (by decide) (fun _ => kk _ _ _ _ hrel' hc hm hS) (fun h => absurd rfl h)
set_option maxHeartbeats 4000000 in
set_option maxRecDepth 100000 in
theorem law_2 {p : Program} {l : Launch} {e : Env} {s : State} {m : MethodId} {below : List Frame} {meth : Method} {c : Code} {H : Heap} {locs : List Loc} {Q : State → Prop} {ls : Array Slot} {E : Ev} {adC adM : Nat → Nat} {b L : Nat} {xs : Nat → Int32} {x y : St} (hX : LX E adC adM b L xs p s m meth c) {i : Nat} (hi : i + 5 ≤ L) (hrel : Rel x y) (hc : Wd E adC ixC x H) (hm : Wd E adM ixM y H) (hS : va_S (fun q => s.heap.size ≤ q) s.heap H locs) (hl : lv_has ls 4 [(0, .ref b), (1, .ref (adC 0)), (2, .ref (adM 100)), (3, .int (nI i))])
    (kk : ∀ x' y' H1 locs1, Rel x' y' → Wd E adC ixC x' H1 → Wd E adM ixM y' H1 → va_S (fun q => s.heap.size ≤ q) s.heap H1 locs1 → W p l e room_1 s m #[Value.ref b] below meth c H1 locs1 600000 7302250 Q (F0 m 990 ls [])) : W p l e room_1 s m #[Value.ref b] below meth c H locs 600000 7302250 Q (F0 m 234 ls []) := by
  obtain ⟨C0, hXX, hbl, hap, hapM, h3, h4, h5, hL⟩ := id hX
  obtain ⟨hx, hb, hml, hr, hown, hts, hlk, hK⟩ := id C0
  obtain ⟨r, x', y', e1, e2, hrel'⟩ := s_piece hrel (xs (i + 1)) (xs (i + 2))
  refine lv_aload_n hx hb dl_234 rfl (lv_at hl 1 rfl) ?_
  refine argL hX hS (k := 1) (by omega) hl dl_235 dl_236 dl_237 (by decide) dl_238 dl_239 ?_
  refine argL hX hS (k := 2) (by omega) hl dl_240 dl_241 dl_242 (by decide) dl_243 dl_244 ?_
  refine lcC (As := [.int (xs (i + 1)), .int (xs (i + 2))]) (rest := []) (n := 2) hX (cc_GG_piece hap ⟨by decide, rfl⟩ e1) hc hm hS gw_code_GG_piece gw_m_LA_23 gw_inst_GG_piece gw_sel_GG_piece gw_ini_GG rfl rfl (by decide +kernel) rfl ⟨Nat.le_of_ble_eq_true rfl, Nat.le_of_ble_eq_true rfl⟩ hl.1 rfl (Nat.le_of_ble_eq_true rfl) dl_245 (fun H locs hc hm hS => ?_)
  refine lv_aload_n hx hb dl_248 rfl (lv_at hl 2 rfl) ?_
  refine argL hX hS (k := 1) (by omega) hl dl_249 dl_250 dl_251 (by decide) dl_252 dl_253 ?_
  refine argL hX hS (k := 2) (by omega) hl dl_254 dl_255 dl_256 (by decide) dl_257 dl_258 ?_
  refine lcM (As := [.int (xs (i + 1)), .int (xs (i + 2))]) (rest := [.int r]) (n := 2) hX (cc_MO_piece hapM ⟨by decide, rfl⟩ e2) hm hc hS gw_code_MO_piece gw_m_LA_27 gw_inst_MO_piece gw_sel_MO_piece gw_ini_MO rfl rfl (by decide +kernel) rfl ⟨Nat.le_of_ble_eq_true rfl, Nat.le_of_ble_eq_true rfl⟩ hl.1 rfl (Nat.le_of_ble_eq_true rfl) dl_259 (fun H locs hm hc hS => ?_)
  exact lv_icmp_eq (tgt := 990) hx hb dl_262 (by decide) (fun _ => kk _ _ _ _ hrel' hc hm hS) (fun h => absurd rfl h)
set_option maxHeartbeats 4000000 in
set_option maxRecDepth 100000 in
theorem law_3 {p : Program} {l : Launch} {e : Env} {s : State} {m : MethodId} {below : List Frame} {meth : Method} {c : Code} {H : Heap} {locs : List Loc} {Q : State → Prop} {ls : Array Slot} {E : Ev} {adC adM : Nat → Nat} {b L : Nat} {xs : Nat → Int32} {x y : St} (hX : LX E adC adM b L xs p s m meth c) {i : Nat} (hi : i + 5 ≤ L) (hrel : Rel x y) (hc : Wd E adC ixC x H) (hm : Wd E adM ixM y H) (hS : va_S (fun q => s.heap.size ≤ q) s.heap H locs) (hl : lv_has ls 4 [(0, .ref b), (1, .ref (adC 0)), (2, .ref (adM 100)), (3, .int (nI i))])
    (kk : ∀ x' y' H1 locs1, Rel x' y' → Wd E adC ixC x' H1 → Wd E adM ixM y' H1 → va_S (fun q => s.heap.size ≤ q) s.heap H1 locs1 → W p l e room_1 s m #[Value.ref b] below meth c H1 locs1 600000 7302250 Q (F0 m 990 ls [])) : W p l e room_1 s m #[Value.ref b] below meth c H locs 600000 7302250 Q (F0 m 267 ls []) := by
  obtain ⟨C0, hXX, hbl, hap, hapM, h3, h4, h5, hL⟩ := id hX
  obtain ⟨hx, hb, hml, hr, hown, hts, hlk, hK⟩ := id C0
  obtain ⟨r, x', y', e1, e2, hrel'⟩ := s_feast hrel (xs (i + 1)) (xs (i + 2)) (xs (i + 3))
  refine lv_aload_n hx hb dl_267 rfl (lv_at hl 1 rfl) ?_
  refine argL hX hS (k := 1) (by omega) hl dl_268 dl_269 dl_270 (by decide) dl_271 dl_272 ?_
  refine argL hX hS (k := 2) (by omega) hl dl_273 dl_274 dl_275 (by decide) dl_276 dl_277 ?_
  refine argL hX hS (k := 3) (by omega) hl dl_278 dl_279 dl_280 (by decide) dl_281 dl_282 ?_
  refine lcC (As := [.int (xs (i + 1)), .int (xs (i + 2)), .int (xs (i + 3))]) (rest := []) (n := 3) hX (cc_GG_feast hap ⟨by decide, rfl⟩ e1) hc hm hS gw_code_GG_feast gw_m_LA_28 gw_inst_GG_feast gw_sel_GG_feast gw_ini_GG rfl rfl (by decide +kernel) rfl ⟨Nat.le_of_ble_eq_true rfl, Nat.le_of_ble_eq_true rfl⟩ hl.1 rfl (Nat.le_of_ble_eq_true rfl) dl_283 (fun H locs hc hm hS => ?_)
  refine lv_aload_n hx hb dl_286 rfl (lv_at hl 2 rfl) ?_
  refine argL hX hS (k := 1) (by omega) hl dl_287 dl_288 dl_289 (by decide) dl_290 dl_291 ?_
  refine argL hX hS (k := 2) (by omega) hl dl_292 dl_293 dl_294 (by decide) dl_295 dl_296 ?_
  refine argL hX hS (k := 3) (by omega) hl dl_297 dl_298 dl_299 (by decide) dl_300 dl_301 ?_
  refine lcM (As := [.int (xs (i + 1)), .int (xs (i + 2)), .int (xs (i + 3))]) (rest := [.int r]) (n := 3) hX (cc_MO_feast hapM ⟨by decide, rfl⟩ e2) hm hc hS gw_code_MO_feast gw_m_LA_31 gw_inst_MO_feast gw_sel_MO_feast gw_ini_MO rfl rfl (by decide +kernel) rfl ⟨Nat.le_of_ble_eq_true rfl, Nat.le_of_ble_eq_true rfl⟩ hl.1 rfl (Nat.le_of_ble_eq_true rfl) dl_302 (fun H locs hm hc hS => ?_)
  exact lv_icmp_eq (tgt := 990) hx hb dl_305 (by decide) (fun _ => kk _ _ _ _ hrel' hc hm hS) (fun h => absurd rfl h)
set_option maxHeartbeats 4000000 in
set_option maxRecDepth 100000 in
theorem law_4 {p : Program} {l : Launch} {e : Env} {s : State} {m : MethodId} {below : List Frame} {meth : Method} {c : Code} {H : Heap} {locs : List Loc} {Q : State → Prop} {ls : Array Slot} {E : Ev} {adC adM : Nat → Nat} {b L : Nat} {xs : Nat → Int32} {x y : St} (hX : LX E adC adM b L xs p s m meth c) {i : Nat} (hi : i + 5 ≤ L) (hrel : Rel x y) (hc : Wd E adC ixC x H) (hm : Wd E adM ixM y H) (hS : va_S (fun q => s.heap.size ≤ q) s.heap H locs) (hl : lv_has ls 4 [(0, .ref b), (1, .ref (adC 0)), (2, .ref (adM 100)), (3, .int (nI i))])
    (kk : ∀ x' y' H1 locs1, Rel x' y' → Wd E adC ixC x' H1 → Wd E adM ixM y' H1 → va_S (fun q => s.heap.size ≤ q) s.heap H1 locs1 → W p l e room_1 s m #[Value.ref b] below meth c H1 locs1 600000 7302250 Q (F0 m 990 ls [])) : W p l e room_1 s m #[Value.ref b] below meth c H locs 600000 7302250 Q (F0 m 310 ls []) := by
  obtain ⟨C0, hXX, hbl, hap, hapM, h3, h4, h5, hL⟩ := id hX
  obtain ⟨hx, hb, hml, hr, hown, hts, hlk, hK⟩ := id C0
  obtain ⟨r, x', y', e1, e2, hrel'⟩ := s_skip hrel 
  refine lv_aload_n hx hb dl_310 rfl (lv_at hl 1 rfl) ?_
  refine lcC (As := []) (rest := []) (n := 0) hX (cc_GG_skip hap ⟨by decide, rfl⟩ e1) hc hm hS gw_code_GG_skip gw_m_LA_32 gw_inst_GG_skip gw_sel_GG_skip gw_ini_GG rfl rfl (by decide +kernel) rfl ⟨Nat.le_of_ble_eq_true rfl, Nat.le_of_ble_eq_true rfl⟩ hl.1 rfl (Nat.le_of_ble_eq_true rfl) dl_311 (fun H locs hc hm hS => ?_)
  refine lv_aload_n hx hb dl_314 rfl (lv_at hl 2 rfl) ?_
  refine lcM (As := []) (rest := [.int r]) (n := 0) hX (cc_MO_skip hapM ⟨by decide, rfl⟩ e2) hm hc hS gw_code_MO_skip gw_m_LA_36 gw_inst_MO_skip gw_sel_MO_skip gw_ini_MO rfl rfl (by decide +kernel) rfl ⟨Nat.le_of_ble_eq_true rfl, Nat.le_of_ble_eq_true rfl⟩ hl.1 rfl (Nat.le_of_ble_eq_true rfl) dl_315 (fun H locs hm hc hS => ?_)
  exact lv_icmp_eq (tgt := 990) hx hb dl_318 (by decide) (fun _ => kk _ _ _ _ hrel' hc hm hS) (fun h => absurd rfl h)
set_option maxHeartbeats 4000000 in
set_option maxRecDepth 100000 in
theorem law_5 {p : Program} {l : Launch} {e : Env} {s : State} {m : MethodId} {below : List Frame} {meth : Method} {c : Code} {H : Heap} {locs : List Loc} {Q : State → Prop} {ls : Array Slot} {E : Ev} {adC adM : Nat → Nat} {b L : Nat} {xs : Nat → Int32} {x y : St} (hX : LX E adC adM b L xs p s m meth c) {i : Nat} (hi : i + 5 ≤ L) (hrel : Rel x y) (hc : Wd E adC ixC x H) (hm : Wd E adM ixM y H) (hS : va_S (fun q => s.heap.size ≤ q) s.heap H locs) (hl : lv_has ls 4 [(0, .ref b), (1, .ref (adC 0)), (2, .ref (adM 100)), (3, .int (nI i))])
    (kk : ∀ x' y' H1 locs1, Rel x' y' → Wd E adC ixC x' H1 → Wd E adM ixM y' H1 → va_S (fun q => s.heap.size ≤ q) s.heap H1 locs1 → W p l e room_1 s m #[Value.ref b] below meth c H1 locs1 600000 7302250 Q (F0 m 990 ls [])) : W p l e room_1 s m #[Value.ref b] below meth c H locs 600000 7302250 Q (F0 m 323 ls []) := by
  obtain ⟨C0, hXX, hbl, hap, hapM, h3, h4, h5, hL⟩ := id hX
  obtain ⟨hx, hb, hml, hr, hown, hts, hlk, hK⟩ := id C0
  obtain ⟨r, x', y', e1, e2, hrel'⟩ := s_boil hrel (xs (i + 1)) (xs (i + 2)) (xs (i + 3))
  refine lv_aload_n hx hb dl_323 rfl (lv_at hl 1 rfl) ?_
  refine argL hX hS (k := 1) (by omega) hl dl_324 dl_325 dl_326 (by decide) dl_327 dl_328 ?_
  refine argL hX hS (k := 2) (by omega) hl dl_329 dl_330 dl_331 (by decide) dl_332 dl_333 ?_
  refine argL hX hS (k := 3) (by omega) hl dl_334 dl_335 dl_336 (by decide) dl_337 dl_338 ?_
  refine lcC (As := [.int (xs (i + 1)), .int (xs (i + 2)), .int (xs (i + 3))]) (rest := []) (n := 3) hX (cc_GG_boil hap ⟨by decide, rfl⟩ e1) hc hm hS gw_code_GG_boil gw_m_LA_37 gw_inst_GG_boil gw_sel_GG_boil gw_ini_GG rfl rfl (by decide +kernel) rfl ⟨Nat.le_of_ble_eq_true rfl, Nat.le_of_ble_eq_true rfl⟩ hl.1 rfl (Nat.le_of_ble_eq_true rfl) dl_339 (fun H locs hc hm hS => ?_)
  refine lv_aload_n hx hb dl_342 rfl (lv_at hl 2 rfl) ?_
  refine argL hX hS (k := 1) (by omega) hl dl_343 dl_344 dl_345 (by decide) dl_346 dl_347 ?_
  refine argL hX hS (k := 2) (by omega) hl dl_348 dl_349 dl_350 (by decide) dl_351 dl_352 ?_
  refine argL hX hS (k := 3) (by omega) hl dl_353 dl_354 dl_355 (by decide) dl_356 dl_357 ?_
  refine lcM (As := [.int (xs (i + 1)), .int (xs (i + 2)), .int (xs (i + 3))]) (rest := [.int r]) (n := 3) hX (cc_MO_boil hapM ⟨by decide, rfl⟩ e2) hm hc hS gw_code_MO_boil gw_m_LA_40 gw_inst_MO_boil gw_sel_MO_boil gw_ini_MO rfl rfl (by decide +kernel) rfl ⟨Nat.le_of_ble_eq_true rfl, Nat.le_of_ble_eq_true rfl⟩ hl.1 rfl (Nat.le_of_ble_eq_true rfl) dl_358 (fun H locs hm hc hS => ?_)
  exact lv_icmp_eq (tgt := 990) hx hb dl_361 (by decide) (fun _ => kk _ _ _ _ hrel' hc hm hS) (fun h => absurd rfl h)
set_option maxHeartbeats 4000000 in
set_option maxRecDepth 100000 in
theorem law_6 {p : Program} {l : Launch} {e : Env} {s : State} {m : MethodId} {below : List Frame} {meth : Method} {c : Code} {H : Heap} {locs : List Loc} {Q : State → Prop} {ls : Array Slot} {E : Ev} {adC adM : Nat → Nat} {b L : Nat} {xs : Nat → Int32} {x y : St} (hX : LX E adC adM b L xs p s m meth c) {i : Nat} (hi : i + 5 ≤ L) (hrel : Rel x y) (hc : Wd E adC ixC x H) (hm : Wd E adM ixM y H) (hS : va_S (fun q => s.heap.size ≤ q) s.heap H locs) (hl : lv_has ls 4 [(0, .ref b), (1, .ref (adC 0)), (2, .ref (adM 100)), (3, .int (nI i))])
    (kk : ∀ x' y' H1 locs1, Rel x' y' → Wd E adC ixC x' H1 → Wd E adM ixM y' H1 → va_S (fun q => s.heap.size ≤ q) s.heap H1 locs1 → W p l e room_1 s m #[Value.ref b] below meth c H1 locs1 600000 7302250 Q (F0 m 990 ls [])) : W p l e room_1 s m #[Value.ref b] below meth c H locs 600000 7302250 Q (F0 m 366 ls []) := by
  obtain ⟨C0, hXX, hbl, hap, hapM, h3, h4, h5, hL⟩ := id hX
  obtain ⟨hx, hb, hml, hr, hown, hts, hlk, hK⟩ := id C0
  obtain ⟨r, x', y', e1, e2, hrel'⟩ := s_day hrel (xs (i + 1))
  refine lv_aload_n hx hb dl_366 rfl (lv_at hl 1 rfl) ?_
  refine argL hX hS (k := 1) (by omega) hl dl_367 dl_368 dl_369 (by decide) dl_370 dl_371 ?_
  refine lcC (As := [.int (xs (i + 1))]) (rest := []) (n := 1) hX (cc_GG_day hap ⟨by decide, rfl⟩ e1) hc hm hS gw_code_GG_day gw_m_LA_41 gw_inst_GG_day gw_sel_GG_day gw_ini_GG rfl rfl (by decide +kernel) rfl ⟨Nat.le_of_ble_eq_true rfl, Nat.le_of_ble_eq_true rfl⟩ hl.1 rfl (Nat.le_of_ble_eq_true rfl) dl_372 (fun H locs hc hm hS => ?_)
  refine lv_aload_n hx hb dl_375 rfl (lv_at hl 2 rfl) ?_
  refine argL hX hS (k := 1) (by omega) hl dl_376 dl_377 dl_378 (by decide) dl_379 dl_380 ?_
  refine lcM (As := [.int (xs (i + 1))]) (rest := [.int r]) (n := 1) hX (cc_MO_day hapM ⟨by decide, rfl⟩ e2) hm hc hS gw_code_MO_day gw_m_LA_44 gw_inst_MO_day gw_sel_MO_day gw_ini_MO rfl rfl (by decide +kernel) rfl ⟨Nat.le_of_ble_eq_true rfl, Nat.le_of_ble_eq_true rfl⟩ hl.1 rfl (Nat.le_of_ble_eq_true rfl) dl_381 (fun H locs hm hc hS => ?_)
  exact lv_icmp_eq (tgt := 990) hx hb dl_384 (by decide) (fun _ => kk _ _ _ _ hrel' hc hm hS) (fun h => absurd rfl h)
set_option maxHeartbeats 4000000 in
set_option maxRecDepth 100000 in
theorem law_7 {p : Program} {l : Launch} {e : Env} {s : State} {m : MethodId} {below : List Frame} {meth : Method} {c : Code} {H : Heap} {locs : List Loc} {Q : State → Prop} {ls : Array Slot} {E : Ev} {adC adM : Nat → Nat} {b L : Nat} {xs : Nat → Int32} {x y : St} (hX : LX E adC adM b L xs p s m meth c) {i : Nat} (hi : i + 5 ≤ L) (hrel : Rel x y) (hc : Wd E adC ixC x H) (hm : Wd E adM ixM y H) (hS : va_S (fun q => s.heap.size ≤ q) s.heap H locs) (hl : lv_has ls 4 [(0, .ref b), (1, .ref (adC 0)), (2, .ref (adM 100)), (3, .int (nI i))])
    (kk : ∀ x' y' H1 locs1, Rel x' y' → Wd E adC ixC x' H1 → Wd E adM ixM y' H1 → va_S (fun q => s.heap.size ≤ q) s.heap H1 locs1 → W p l e room_1 s m #[Value.ref b] below meth c H1 locs1 600000 7302250 Q (F0 m 990 ls [])) : W p l e room_1 s m #[Value.ref b] below meth c H locs 600000 7302250 Q (F0 m 389 ls []) := by
  obtain ⟨C0, hXX, hbl, hap, hapM, h3, h4, h5, hL⟩ := id hX
  obtain ⟨hx, hb, hml, hr, hown, hts, hlk, hK⟩ := id C0
  obtain ⟨r, x', y', e1, e2, hrel'⟩ := s_undo hrel 
  refine lv_aload_n hx hb dl_389 rfl (lv_at hl 1 rfl) ?_
  refine lcC (As := []) (rest := []) (n := 0) hX (cc_GG_undo hap ⟨by decide, rfl⟩ e1) hc hm hS gw_code_GG_undo gw_m_LA_45 gw_inst_GG_undo gw_sel_GG_undo gw_ini_GG rfl rfl (by decide +kernel) rfl ⟨Nat.le_of_ble_eq_true rfl, Nat.le_of_ble_eq_true rfl⟩ hl.1 rfl (Nat.le_of_ble_eq_true rfl) dl_390 (fun H locs hc hm hS => ?_)
  refine lv_aload_n hx hb dl_393 rfl (lv_at hl 2 rfl) ?_
  refine lcM (As := []) (rest := [.int r]) (n := 0) hX (cc_MO_undo hapM ⟨by decide, rfl⟩ e2) hm hc hS gw_code_MO_undo gw_m_LA_48 gw_inst_MO_undo gw_sel_MO_undo gw_ini_MO rfl rfl (by decide +kernel) rfl ⟨Nat.le_of_ble_eq_true rfl, Nat.le_of_ble_eq_true rfl⟩ hl.1 rfl (Nat.le_of_ble_eq_true rfl) dl_394 (fun H locs hm hc hS => ?_)
  exact lv_icmp_eq (tgt := 990) hx hb dl_397 (by decide) (fun _ => kk _ _ _ _ hrel' hc hm hS) (fun h => absurd rfl h)
set_option maxHeartbeats 4000000 in
set_option maxRecDepth 100000 in
theorem law_8 {p : Program} {l : Launch} {e : Env} {s : State} {m : MethodId} {below : List Frame} {meth : Method} {c : Code} {H : Heap} {locs : List Loc} {Q : State → Prop} {ls : Array Slot} {E : Ev} {adC adM : Nat → Nat} {b L : Nat} {xs : Nat → Int32} {x y : St} (hX : LX E adC adM b L xs p s m meth c) {i : Nat} (hi : i + 5 ≤ L) (hrel : Rel x y) (hc : Wd E adC ixC x H) (hm : Wd E adM ixM y H) (hS : va_S (fun q => s.heap.size ≤ q) s.heap H locs) (hl : lv_has ls 4 [(0, .ref b), (1, .ref (adC 0)), (2, .ref (adM 100)), (3, .int (nI i))])
    (kk : ∀ x' y' H1 locs1, Rel x' y' → Wd E adC ixC x' H1 → Wd E adM ixM y' H1 → va_S (fun q => s.heap.size ≤ q) s.heap H1 locs1 → W p l e room_1 s m #[Value.ref b] below meth c H1 locs1 600000 7302250 Q (F0 m 990 ls [])) : W p l e room_1 s m #[Value.ref b] below meth c H locs 600000 7302250 Q (F0 m 402 ls []) := by
  obtain ⟨C0, hXX, hbl, hap, hapM, h3, h4, h5, hL⟩ := id hX
  obtain ⟨hx, hb, hml, hr, hown, hts, hlk, hK⟩ := id C0
  obtain ⟨r, x', y', e1, e2, hrel'⟩ := s_type hrel ((((xs (i + 1)).toInt64 <<< ((32 : Int32).toInt64 &&& 63)) ||| ((xs (i + 2)).toInt64 &&& 4294967295))) (xs (i + 3))
  refine lv_aload_n hx hb dl_402 rfl (lv_at hl 1 rfl) ?_
  refine argL hX hS (k := 1) (by omega) hl dl_403 dl_404 dl_405 (by decide) dl_406 dl_407 ?_
  refine lv_i2l hx hb dl_408 rfl ?_
  refine lv_bipush (v := 32) hx hb dl_409 (by decide) ?_
  refine lv_lshl hx hb dl_411 rfl ?_
  refine argL hX hS (k := 2) (by omega) hl dl_412 dl_413 dl_414 (by decide) dl_415 dl_416 ?_
  refine lv_i2l hx hb dl_417 rfl ?_
  refine lv_ldc2 hx hb hown (hts _ gw_k_LA_49) dl_418 ?_
  refine lv_land hx hb dl_421 ?_
  refine lv_lor hx hb dl_422 ?_
  refine argL hX hS (k := 3) (by omega) hl dl_423 dl_424 dl_425 (by decide) dl_426 dl_427 ?_
  refine lcC (As := [.long ((((xs (i + 1)).toInt64 <<< ((32 : Int32).toInt64 &&& 63)) ||| ((xs (i + 2)).toInt64 &&& 4294967295))), .int (xs (i + 3))]) (rest := []) (n := 2) hX (cc_GG_type hap ⟨by decide, rfl⟩ e1) hc hm hS gw_code_GG_type gw_m_LA_51 gw_inst_GG_type gw_sel_GG_type gw_ini_GG rfl rfl (by decide +kernel) rfl ⟨Nat.le_of_ble_eq_true rfl, Nat.le_of_ble_eq_true rfl⟩ hl.1 rfl (Nat.le_of_ble_eq_true rfl) dl_428 (fun H locs hc hm hS => ?_)
  refine lv_aload_n hx hb dl_431 rfl (lv_at hl 2 rfl) ?_
  refine argL hX hS (k := 1) (by omega) hl dl_432 dl_433 dl_434 (by decide) dl_435 dl_436 ?_
  refine lv_i2l hx hb dl_437 rfl ?_
  refine lv_bipush (v := 32) hx hb dl_438 (by decide) ?_
  refine lv_lshl hx hb dl_440 rfl ?_
  refine argL hX hS (k := 2) (by omega) hl dl_441 dl_442 dl_443 (by decide) dl_444 dl_445 ?_
  refine lv_i2l hx hb dl_446 rfl ?_
  refine lv_ldc2 hx hb hown (hts _ gw_k_LA_49) dl_447 ?_
  refine lv_land hx hb dl_450 ?_
  refine lv_lor hx hb dl_451 ?_
  refine argL hX hS (k := 3) (by omega) hl dl_452 dl_453 dl_454 (by decide) dl_455 dl_456 ?_
  refine lcM (As := [.long ((((xs (i + 1)).toInt64 <<< ((32 : Int32).toInt64 &&& 63)) ||| ((xs (i + 2)).toInt64 &&& 4294967295))), .int (xs (i + 3))]) (rest := [.int r]) (n := 2) hX (cc_MO_type hapM ⟨by decide, rfl⟩ e2) hm hc hS gw_code_MO_type gw_m_LA_55 gw_inst_MO_type gw_sel_MO_type gw_ini_MO rfl rfl (by decide +kernel) rfl ⟨Nat.le_of_ble_eq_true rfl, Nat.le_of_ble_eq_true rfl⟩ hl.1 rfl (Nat.le_of_ble_eq_true rfl) dl_457 (fun H locs hm hc hS => ?_)
  exact lv_icmp_eq (tgt := 990) hx hb dl_460 (by decide) (fun _ => kk _ _ _ _ hrel' hc hm hS) (fun h => absurd rfl h)
set_option maxHeartbeats 4000000 in
set_option maxRecDepth 100000 in
theorem law_9 {p : Program} {l : Launch} {e : Env} {s : State} {m : MethodId} {below : List Frame} {meth : Method} {c : Code} {H : Heap} {locs : List Loc} {Q : State → Prop} {ls : Array Slot} {E : Ev} {adC adM : Nat → Nat} {b L : Nat} {xs : Nat → Int32} {x y : St} (hX : LX E adC adM b L xs p s m meth c) {i : Nat} (hi : i + 5 ≤ L) (hrel : Rel x y) (hc : Wd E adC ixC x H) (hm : Wd E adM ixM y H) (hS : va_S (fun q => s.heap.size ≤ q) s.heap H locs) (hl : lv_has ls 4 [(0, .ref b), (1, .ref (adC 0)), (2, .ref (adM 100)), (3, .int (nI i))])
    (kk : ∀ x' y' H1 locs1, Rel x' y' → Wd E adC ixC x' H1 → Wd E adM ixM y' H1 → va_S (fun q => s.heap.size ≤ q) s.heap H1 locs1 → W p l e room_1 s m #[Value.ref b] below meth c H1 locs1 600000 7302250 Q (F0 m 990 ls [])) : W p l e room_1 s m #[Value.ref b] below meth c H locs 600000 7302250 Q (F0 m 465 ls []) := by
  obtain ⟨C0, hXX, hbl, hap, hapM, h3, h4, h5, hL⟩ := id hX
  obtain ⟨hx, hb, hml, hr, hown, hts, hlk, hK⟩ := id C0
  obtain ⟨r, x', y', e1, e2, hrel'⟩ := s_clear hrel 
  refine lv_aload_n hx hb dl_465 rfl (lv_at hl 1 rfl) ?_
  refine lcC (As := []) (rest := []) (n := 0) hX (cc_GG_clear hap ⟨by decide, rfl⟩ e1) hc hm hS gw_code_GG_clear gw_m_LA_56 gw_inst_GG_clear gw_sel_GG_clear gw_ini_GG rfl rfl (by decide +kernel) rfl ⟨Nat.le_of_ble_eq_true rfl, Nat.le_of_ble_eq_true rfl⟩ hl.1 rfl (Nat.le_of_ble_eq_true rfl) dl_466 (fun H locs hc hm hS => ?_)
  refine lv_aload_n hx hb dl_469 rfl (lv_at hl 2 rfl) ?_
  refine lcM (As := []) (rest := [.int r]) (n := 0) hX (cc_MO_clear hapM ⟨by decide, rfl⟩ e2) hm hc hS gw_code_MO_clear gw_m_LA_59 gw_inst_MO_clear gw_sel_MO_clear gw_ini_MO rfl rfl (by decide +kernel) rfl ⟨Nat.le_of_ble_eq_true rfl, Nat.le_of_ble_eq_true rfl⟩ hl.1 rfl (Nat.le_of_ble_eq_true rfl) dl_470 (fun H locs hm hc hS => ?_)
  exact lv_icmp_eq (tgt := 990) hx hb dl_473 (by decide) (fun _ => kk _ _ _ _ hrel' hc hm hS) (fun h => absurd rfl h)
