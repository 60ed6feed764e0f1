section
variable {p : Program} {l : Launch} {e : Env} {s : State} {m : MethodId} {below : List Frame} {meth : Method} {c : Code} {H : Heap} {locs : List Loc} {cells slots : Nat} {Q : State → Prop} {ls : Array Slot}
variable {D : va_G} {cI cJ cS cR : ClassId} {adX adM adK adV : Nat → Nat} {N : Nat} {σ τ σ1 : q_M} {b L i : Nat} {xs : Nat → Int32} {R : q_M → q_M → Nat → Prop}
set_option maxHeartbeats 4000000 in
set_option maxRecDepth 100000 in
theorem lc_row (hop : Op_row R) (hRN : ∀ σ τ N, R σ τ N → mB N 0 ∧ N % 29 = 0 ∧ N ≤ 87 ∧ mV N τ) (C0 : CallFix p m c code 4 s #[Value.ref b] wsL_law RL) (hX : va_X b L xs s s.heap) (hbl : b < s.heap.size) (hL : L < 2 ^ 31) (hi : i + 6 ≤ L) (hcs : cells + 29 ≤ 600000 ∧ slots + 1060 ≤ 7302250) (hR : R σ τ N) (hw : l_H D cI cJ cS cR adX adM adK adV N (fun q : Nat => s.heap.size ≤ q) s σ τ H locs) (hl : lv_has ls 4 [(0, .ref b), (1, .ref (adX 0)), (2, .ref (adM 0)), (3, .int (nI i))])
    (kk : ∀ (σ' τ' : q_M) (N' : Nat) (adM' : Nat → Nat) (H : Heap) (locs : List Loc) (ls : Array Slot), R σ' τ' N' → l_H D cI cJ cS cR adX adM' adK adV N' (fun q : Nat => s.heap.size ≤ q) s σ' τ' H locs → lv_has ls 4 [(0, .ref b), (1, .ref (adX 0)), (2, .ref (adM' 0)), (3, .int (nI i))] → W p l e room_1 s m #[Value.ref b] below meth c H locs (cells + 29) (slots + 1060) Q (F0 m 1847 ls [])) : W p l e room_1 s m #[Value.ref b] below meth c H locs cells slots Q (F0 m 260 ls []) := by
  obtain ⟨hx, hb, hml, hown, hts⟩ := id C0
  have hbA : ¬ (fun q : Nat => s.heap.size ≤ q) b := Nat.not_le.mpr hbl
  refine lv_aload_n hx hb dL_law_260 rfl (lv_at hl 1 rfl) ?_
  refine lv_aload_n hx hb dL_law_261 rfl (lv_at hl 0 rfl) ?_
  refine lv_iload_n hx hb dL_law_262 rfl (lv_at hl 3 rfl) ?_
  refine lv_iconst (v := (1 : Int32)) hx hb dL_law_263 (by decide) ?_
  refine lv_iadd hx hb dL_law_264 ?_
  refine l_sld (i := i) (k := 1) C0 hX hbl hbA hw.1.2.2.2.1 (nI_add i 1) (by omega) hL dL_law_265 ?_
  refine lv_aload_n hx hb dL_law_266 rfl (lv_at hl 0 rfl) ?_
  refine lv_iload_n hx hb dL_law_267 rfl (lv_at hl 3 rfl) ?_
  refine lv_iconst (v := (2 : Int32)) hx hb dL_law_268 (by decide) ?_
  refine lv_iadd hx hb dL_law_269 ?_
  refine l_sld (i := i) (k := 2) C0 hX hbl hbA hw.1.2.2.2.1 (nI_add i 2) (by omega) hL dL_law_270 ?_
  refine lv_aload_n hx hb dL_law_271 rfl (lv_at hl 0 rfl) ?_
  refine lv_iload_n hx hb dL_law_272 rfl (lv_at hl 3 rfl) ?_
  refine lv_iconst (v := (3 : Int32)) hx hb dL_law_273 (by decide) ?_
  refine lv_iadd hx hb dL_law_274 ?_
  refine l_sld (i := i) (k := 3) C0 hX hbl hbA hw.1.2.2.2.1 (nI_add i 3) (by omega) hL dL_law_275 ?_
  obtain ⟨r, σ', τ', h1, h2, hR'⟩ := hop σ τ N (xs (i + 1)) (xs (i + 2)) (xs (i + 3)) hR
  refine l_callXi hw (va_runV (As := [.int (xs (i + 1)), .int (xs (i + 2)), .int (xs (i + 3))]) (rest := []) C0 (kX8_row h1 _) (cwV 3 hts gL_law_X8_row rfl rfl rfl eL_X8_row ⟨(Nat.le_of_ble_eq_true rfl), (Nat.le_of_ble_eq_true rfl)⟩) ⟨q_blind, q_recv (l_X hw) (xN_0 xF_0) (xE_0 xF_0) rfl, q_pre (l_X hw)⟩ rfl rfl hl.1 rfl (lv_room (Nat.le_of_ble_eq_true rfl)) dL_law_276 ⟨(show cells + 0 ≤ 600000 by omega), (show slots + 0 ≤ 7302250 by omega)⟩) (fun H locs hw => ?_)
  refine lv_aload_n hx hb dL_law_279 rfl (lv_at hl 2 rfl) ?_
  refine lv_aload_n hx hb dL_law_280 rfl (lv_at hl 0 rfl) ?_
  refine lv_iload_n hx hb dL_law_281 rfl (lv_at hl 3 rfl) ?_
  refine lv_iconst (v := (1 : Int32)) hx hb dL_law_282 (by decide) ?_
  refine lv_iadd hx hb dL_law_283 ?_
  refine l_sld (i := i) (k := 1) C0 hX hbl hbA hw.1.2.2.2.1 (nI_add i 1) (by omega) hL dL_law_284 ?_
  refine lv_aload_n hx hb dL_law_285 rfl (lv_at hl 0 rfl) ?_
  refine lv_iload_n hx hb dL_law_286 rfl (lv_at hl 3 rfl) ?_
  refine lv_iconst (v := (2 : Int32)) hx hb dL_law_287 (by decide) ?_
  refine lv_iadd hx hb dL_law_288 ?_
  refine l_sld (i := i) (k := 2) C0 hX hbl hbA hw.1.2.2.2.1 (nI_add i 2) (by omega) hL dL_law_289 ?_
  refine lv_aload_n hx hb dL_law_290 rfl (lv_at hl 0 rfl) ?_
  refine lv_iload_n hx hb dL_law_291 rfl (lv_at hl 3 rfl) ?_
  refine lv_iconst (v := (3 : Int32)) hx hb dL_law_292 (by decide) ?_
  refine lv_iadd hx hb dL_law_293 ?_
  refine l_sld (i := i) (k := 3) C0 hX hbl hbA hw.1.2.2.2.1 (nI_add i 3) (by omega) hL dL_law_294 ?_
  refine l_callMi hw (va_runV (As := [.int (xs (i + 1)), .int (xs (i + 2)), .int (xs (i + 3))]) (rest := [.int r]) C0 (kX9_row (hRN _ _ _ hR).1 h2 _) (cwV 3 hts gL_law_X9_row rfl rfl rfl eL_X9_row ⟨(Nat.le_of_ble_eq_true rfl), (Nat.le_of_ble_eq_true rfl)⟩) ⟨q_blind, q_recv (l_M hw) (mN_0 (hRN _ _ _ hR).1) (mE_0 (hRN _ _ _ hR).1) rfl, q_pre (l_M hw)⟩ rfl rfl hl.1 rfl (lv_room (Nat.le_of_ble_eq_true rfl)) dL_law_295 ⟨(show cells + 0 ≤ 600000 by omega), (show slots + 0 ≤ 7302250 by omega)⟩) (fun H locs hw => ?_)
  refine lv_icmp_eq (tgt := 1847) hx hb dL_law_298 (by decide) (fun _ => ?_) (fun z => absurd rfl z)
  refine W.widen (k := cells + 29) (n := slots + 1060) (by omega) (by omega) ?_
  exact kk _ _ _ _ _ _ _ hR' hw hl
set_option maxHeartbeats 4000000 in
set_option maxRecDepth 100000 in
theorem lc_set (hop : Op_set R) (hRN : ∀ σ τ N, R σ τ N → mB N 0 ∧ N % 29 = 0 ∧ N ≤ 87 ∧ mV N τ) (C0 : CallFix p m c code 4 s #[Value.ref b] wsL_law RL) (hX : va_X b L xs s s.heap) (hbl : b < s.heap.size) (hL : L < 2 ^ 31) (hi : i + 6 ≤ L) (hcs : cells + 29 ≤ 600000 ∧ slots + 1060 ≤ 7302250) (hR : R σ τ N) (hw : l_H D cI cJ cS cR adX adM adK adV N (fun q : Nat => s.heap.size ≤ q) s σ τ H locs) (hl : lv_has ls 4 [(0, .ref b), (1, .ref (adX 0)), (2, .ref (adM 0)), (3, .int (nI i))])
    (kk : ∀ (σ' τ' : q_M) (N' : Nat) (adM' : Nat → Nat) (H : Heap) (locs : List Loc) (ls : Array Slot), R σ' τ' N' → l_H D cI cJ cS cR adX adM' adK adV N' (fun q : Nat => s.heap.size ≤ q) s σ' τ' H locs → lv_has ls 4 [(0, .ref b), (1, .ref (adX 0)), (2, .ref (adM' 0)), (3, .int (nI i))] → W p l e room_1 s m #[Value.ref b] below meth c H locs (cells + 29) (slots + 1060) Q (F0 m 1847 ls [])) : W p l e room_1 s m #[Value.ref b] below meth c H locs cells slots Q (F0 m 303 ls []) := by
  obtain ⟨hx, hb, hml, hown, hts⟩ := id C0
  have hbA : ¬ (fun q : Nat => s.heap.size ≤ q) b := Nat.not_le.mpr hbl
  refine lv_aload_n hx hb dL_law_303 rfl (lv_at hl 1 rfl) ?_
  refine lv_aload_n hx hb dL_law_304 rfl (lv_at hl 0 rfl) ?_
  refine lv_iload_n hx hb dL_law_305 rfl (lv_at hl 3 rfl) ?_
  refine lv_iconst (v := (1 : Int32)) hx hb dL_law_306 (by decide) ?_
  refine lv_iadd hx hb dL_law_307 ?_
  refine l_sld (i := i) (k := 1) C0 hX hbl hbA hw.1.2.2.2.1 (nI_add i 1) (by omega) hL dL_law_308 ?_
  refine lv_aload_n hx hb dL_law_309 rfl (lv_at hl 0 rfl) ?_
  refine lv_iload_n hx hb dL_law_310 rfl (lv_at hl 3 rfl) ?_
  refine lv_iconst (v := (2 : Int32)) hx hb dL_law_311 (by decide) ?_
  refine lv_iadd hx hb dL_law_312 ?_
  refine l_sld (i := i) (k := 2) C0 hX hbl hbA hw.1.2.2.2.1 (nI_add i 2) (by omega) hL dL_law_313 ?_
  refine lv_aload_n hx hb dL_law_314 rfl (lv_at hl 0 rfl) ?_
  refine lv_iload_n hx hb dL_law_315 rfl (lv_at hl 3 rfl) ?_
  refine lv_iconst (v := (3 : Int32)) hx hb dL_law_316 (by decide) ?_
  refine lv_iadd hx hb dL_law_317 ?_
  refine l_sld (i := i) (k := 3) C0 hX hbl hbA hw.1.2.2.2.1 (nI_add i 3) (by omega) hL dL_law_318 ?_
  refine lv_i2l hx hb dL_law_319 rfl ?_
  refine lv_bipush (v := (32 : Int32)) hx hb dL_law_320 (by decide) ?_
  refine lv_lshl (v := (q_shl (xs (i + 3)).toInt64 (32 : Int32))) hx hb dL_law_322 rfl ?_
  refine lv_aload_n hx hb dL_law_323 rfl (lv_at hl 0 rfl) ?_
  refine lv_iload_n hx hb dL_law_324 rfl (lv_at hl 3 rfl) ?_
  refine lv_iconst (v := (4 : Int32)) hx hb dL_law_325 (by decide) ?_
  refine lv_iadd hx hb dL_law_326 ?_
  refine l_sld (i := i) (k := 4) C0 hX hbl hbA hw.1.2.2.2.1 (nI_add i 4) (by omega) hL dL_law_327 ?_
  refine lv_i2l hx hb dL_law_328 rfl ?_
  refine lv_ldc2 (v := (4294967295 : Int64)) hx hb hown (hts (.constantLong RL 18 (4294967295)) (by decide +kernel)) dL_law_329 ?_
  refine lv_land hx hb dL_law_332 ?_
  refine lv_lor hx hb dL_law_333 ?_
  obtain ⟨r, σ', τ', h1, h2, hR'⟩ := hop σ τ N (xs (i + 1)) (xs (i + 2)) ((q_shl (xs (i + 3)).toInt64 (32 : Int32)) ||| ((xs (i + 4)).toInt64 &&& (4294967295 : Int64))) hR
  refine l_callXi hw (va_runV (As := [.int (xs (i + 1)), .int (xs (i + 2)), .long ((q_shl (xs (i + 3)).toInt64 (32 : Int32)) ||| ((xs (i + 4)).toInt64 &&& (4294967295 : Int64)))]) (rest := []) C0 (kX8_set h1 _) (cwV 3 hts gL_law_X8_set rfl rfl rfl eL_X8_set ⟨(Nat.le_of_ble_eq_true rfl), (Nat.le_of_ble_eq_true rfl)⟩) ⟨q_blind, q_recv (l_X hw) (xN_0 xF_0) (xE_0 xF_0) rfl, q_pre (l_X hw)⟩ rfl rfl hl.1 rfl (lv_room (Nat.le_of_ble_eq_true rfl)) dL_law_334 ⟨(show cells + 0 ≤ 600000 by omega), (show slots + 0 ≤ 7302250 by omega)⟩) (fun H locs hw => ?_)
  refine lv_aload_n hx hb dL_law_337 rfl (lv_at hl 2 rfl) ?_
  refine lv_aload_n hx hb dL_law_338 rfl (lv_at hl 0 rfl) ?_
  refine lv_iload_n hx hb dL_law_339 rfl (lv_at hl 3 rfl) ?_
  refine lv_iconst (v := (1 : Int32)) hx hb dL_law_340 (by decide) ?_
  refine lv_iadd hx hb dL_law_341 ?_
  refine l_sld (i := i) (k := 1) C0 hX hbl hbA hw.1.2.2.2.1 (nI_add i 1) (by omega) hL dL_law_342 ?_
  refine lv_aload_n hx hb dL_law_343 rfl (lv_at hl 0 rfl) ?_
  refine lv_iload_n hx hb dL_law_344 rfl (lv_at hl 3 rfl) ?_
  refine lv_iconst (v := (2 : Int32)) hx hb dL_law_345 (by decide) ?_
  refine lv_iadd hx hb dL_law_346 ?_
  refine l_sld (i := i) (k := 2) C0 hX hbl hbA hw.1.2.2.2.1 (nI_add i 2) (by omega) hL dL_law_347 ?_
  refine lv_aload_n hx hb dL_law_348 rfl (lv_at hl 0 rfl) ?_
  refine lv_iload_n hx hb dL_law_349 rfl (lv_at hl 3 rfl) ?_
  refine lv_iconst (v := (3 : Int32)) hx hb dL_law_350 (by decide) ?_
  refine lv_iadd hx hb dL_law_351 ?_
  refine l_sld (i := i) (k := 3) C0 hX hbl hbA hw.1.2.2.2.1 (nI_add i 3) (by omega) hL dL_law_352 ?_
  refine lv_i2l hx hb dL_law_353 rfl ?_
  refine lv_bipush (v := (32 : Int32)) hx hb dL_law_354 (by decide) ?_
  refine lv_lshl (v := (q_shl (xs (i + 3)).toInt64 (32 : Int32))) hx hb dL_law_356 rfl ?_
  refine lv_aload_n hx hb dL_law_357 rfl (lv_at hl 0 rfl) ?_
  refine lv_iload_n hx hb dL_law_358 rfl (lv_at hl 3 rfl) ?_
  refine lv_iconst (v := (4 : Int32)) hx hb dL_law_359 (by decide) ?_
  refine lv_iadd hx hb dL_law_360 ?_
  refine l_sld (i := i) (k := 4) C0 hX hbl hbA hw.1.2.2.2.1 (nI_add i 4) (by omega) hL dL_law_361 ?_
  refine lv_i2l hx hb dL_law_362 rfl ?_
  refine lv_ldc2 (v := (4294967295 : Int64)) hx hb hown (hts (.constantLong RL 18 (4294967295)) (by decide +kernel)) dL_law_363 ?_
  refine lv_land hx hb dL_law_366 ?_
  refine lv_lor hx hb dL_law_367 ?_
  refine l_callMi hw (va_runV (As := [.int (xs (i + 1)), .int (xs (i + 2)), .long ((q_shl (xs (i + 3)).toInt64 (32 : Int32)) ||| ((xs (i + 4)).toInt64 &&& (4294967295 : Int64)))]) (rest := [.int r]) C0 (kX9_set (hRN _ _ _ hR).1 h2 _) (cwV 3 hts gL_law_X9_set rfl rfl rfl eL_X9_set ⟨(Nat.le_of_ble_eq_true rfl), (Nat.le_of_ble_eq_true rfl)⟩) ⟨q_blind, q_recv (l_M hw) (mN_0 (hRN _ _ _ hR).1) (mE_0 (hRN _ _ _ hR).1) rfl, q_pre (l_M hw)⟩ rfl rfl hl.1 rfl (lv_room (Nat.le_of_ble_eq_true rfl)) dL_law_368 ⟨(show cells + 0 ≤ 600000 by omega), (show slots + 0 ≤ 7302250 by omega)⟩) (fun H locs hw => ?_)
  refine lv_icmp_eq (tgt := 1847) hx hb dL_law_371 (by decide) (fun _ => ?_) (fun z => absurd rfl z)
  refine W.widen (k := cells + 29) (n := slots + 1060) (by omega) (by omega) ?_
  exact kk _ _ _ _ _ _ _ hR' hw hl
set_option maxHeartbeats 4000000 in
set_option maxRecDepth 100000 in
theorem lc_copy (hop : Op_copy R) (hRN : ∀ σ τ N, R σ τ N → mB N 0 ∧ N % 29 = 0 ∧ N ≤ 87 ∧ mV N τ) (C0 : CallFix p m c code 4 s #[Value.ref b] wsL_law RL) (hX : va_X b L xs s s.heap) (hbl : b < s.heap.size) (hL : L < 2 ^ 31) (hi : i + 6 ≤ L) (hcs : cells + 29 ≤ 600000 ∧ slots + 1060 ≤ 7302250) (hR : R σ τ N) (hw : l_H D cI cJ cS cR adX adM adK adV N (fun q : Nat => s.heap.size ≤ q) s σ τ H locs) (hl : lv_has ls 4 [(0, .ref b), (1, .ref (adX 0)), (2, .ref (adM 0)), (3, .int (nI i))])
    (kk : ∀ (σ' τ' : q_M) (N' : Nat) (adM' : Nat → Nat) (H : Heap) (locs : List Loc) (ls : Array Slot), R σ' τ' N' → l_H D cI cJ cS cR adX adM' adK adV N' (fun q : Nat => s.heap.size ≤ q) s σ' τ' H locs → lv_has ls 4 [(0, .ref b), (1, .ref (adX 0)), (2, .ref (adM' 0)), (3, .int (nI i))] → W p l e room_1 s m #[Value.ref b] below meth c H locs (cells + 29) (slots + 1060) Q (F0 m 1847 ls [])) : W p l e room_1 s m #[Value.ref b] below meth c H locs cells slots Q (F0 m 376 ls []) := by
  obtain ⟨hx, hb, hml, hown, hts⟩ := id C0
  have hbA : ¬ (fun q : Nat => s.heap.size ≤ q) b := Nat.not_le.mpr hbl
  refine lv_aload_n hx hb dL_law_376 rfl (lv_at hl 1 rfl) ?_
  refine lv_aload_n hx hb dL_law_377 rfl (lv_at hl 0 rfl) ?_
  refine lv_iload_n hx hb dL_law_378 rfl (lv_at hl 3 rfl) ?_
  refine lv_iconst (v := (1 : Int32)) hx hb dL_law_379 (by decide) ?_
  refine lv_iadd hx hb dL_law_380 ?_
  refine l_sld (i := i) (k := 1) C0 hX hbl hbA hw.1.2.2.2.1 (nI_add i 1) (by omega) hL dL_law_381 ?_
  refine lv_aload_n hx hb dL_law_382 rfl (lv_at hl 0 rfl) ?_
  refine lv_iload_n hx hb dL_law_383 rfl (lv_at hl 3 rfl) ?_
  refine lv_iconst (v := (2 : Int32)) hx hb dL_law_384 (by decide) ?_
  refine lv_iadd hx hb dL_law_385 ?_
  refine l_sld (i := i) (k := 2) C0 hX hbl hbA hw.1.2.2.2.1 (nI_add i 2) (by omega) hL dL_law_386 ?_
  refine lv_aload_n hx hb dL_law_387 rfl (lv_at hl 0 rfl) ?_
  refine lv_iload_n hx hb dL_law_388 rfl (lv_at hl 3 rfl) ?_
  refine lv_iconst (v := (3 : Int32)) hx hb dL_law_389 (by decide) ?_
  refine lv_iadd hx hb dL_law_390 ?_
  refine l_sld (i := i) (k := 3) C0 hX hbl hbA hw.1.2.2.2.1 (nI_add i 3) (by omega) hL dL_law_391 ?_
  refine lv_aload_n hx hb dL_law_392 rfl (lv_at hl 0 rfl) ?_
  refine lv_iload_n hx hb dL_law_393 rfl (lv_at hl 3 rfl) ?_
  refine lv_iconst (v := (4 : Int32)) hx hb dL_law_394 (by decide) ?_
  refine lv_iadd hx hb dL_law_395 ?_
  refine l_sld (i := i) (k := 4) C0 hX hbl hbA hw.1.2.2.2.1 (nI_add i 4) (by omega) hL dL_law_396 ?_
  refine lv_aload_n hx hb dL_law_397 rfl (lv_at hl 0 rfl) ?_
  refine lv_iload_n hx hb dL_law_398 rfl (lv_at hl 3 rfl) ?_
  refine lv_iconst (v := (5 : Int32)) hx hb dL_law_399 (by decide) ?_
  refine lv_iadd hx hb dL_law_400 ?_
  refine l_sld (i := i) (k := 5) C0 hX hbl hbA hw.1.2.2.2.1 (nI_add i 5) (by omega) hL dL_law_401 ?_
  obtain ⟨r, σ', τ', h1, h2, hR'⟩ := hop σ τ N (xs (i + 1)) (xs (i + 2)) (xs (i + 3)) (xs (i + 4)) (xs (i + 5)) hR
  refine l_callXi hw (va_runV (As := [.int (xs (i + 1)), .int (xs (i + 2)), .int (xs (i + 3)), .int (xs (i + 4)), .int (xs (i + 5))]) (rest := []) C0 (kX8_copy h1 _) (cwV 5 hts gL_law_X8_copy rfl rfl rfl eL_X8_copy ⟨(Nat.le_of_ble_eq_true rfl), (Nat.le_of_ble_eq_true rfl)⟩) ⟨q_blind, q_recv (l_X hw) (xN_0 xF_0) (xE_0 xF_0) rfl, q_pre (l_X hw)⟩ rfl rfl hl.1 rfl (lv_room (Nat.le_of_ble_eq_true rfl)) dL_law_402 ⟨(show cells + 0 ≤ 600000 by omega), (show slots + 0 ≤ 7302250 by omega)⟩) (fun H locs hw => ?_)
  refine lv_aload_n hx hb dL_law_405 rfl (lv_at hl 2 rfl) ?_
  refine lv_aload_n hx hb dL_law_406 rfl (lv_at hl 0 rfl) ?_
  refine lv_iload_n hx hb dL_law_407 rfl (lv_at hl 3 rfl) ?_
  refine lv_iconst (v := (1 : Int32)) hx hb dL_law_408 (by decide) ?_
  refine lv_iadd hx hb dL_law_409 ?_
  refine l_sld (i := i) (k := 1) C0 hX hbl hbA hw.1.2.2.2.1 (nI_add i 1) (by omega) hL dL_law_410 ?_
  refine lv_aload_n hx hb dL_law_411 rfl (lv_at hl 0 rfl) ?_
  refine lv_iload_n hx hb dL_law_412 rfl (lv_at hl 3 rfl) ?_
  refine lv_iconst (v := (2 : Int32)) hx hb dL_law_413 (by decide) ?_
  refine lv_iadd hx hb dL_law_414 ?_
  refine l_sld (i := i) (k := 2) C0 hX hbl hbA hw.1.2.2.2.1 (nI_add i 2) (by omega) hL dL_law_415 ?_
  refine lv_aload_n hx hb dL_law_416 rfl (lv_at hl 0 rfl) ?_
  refine lv_iload_n hx hb dL_law_417 rfl (lv_at hl 3 rfl) ?_
  refine lv_iconst (v := (3 : Int32)) hx hb dL_law_418 (by decide) ?_
  refine lv_iadd hx hb dL_law_419 ?_
  refine l_sld (i := i) (k := 3) C0 hX hbl hbA hw.1.2.2.2.1 (nI_add i 3) (by omega) hL dL_law_420 ?_
  refine lv_aload_n hx hb dL_law_421 rfl (lv_at hl 0 rfl) ?_
  refine lv_iload_n hx hb dL_law_422 rfl (lv_at hl 3 rfl) ?_
  refine lv_iconst (v := (4 : Int32)) hx hb dL_law_423 (by decide) ?_
  refine lv_iadd hx hb dL_law_424 ?_
  refine l_sld (i := i) (k := 4) C0 hX hbl hbA hw.1.2.2.2.1 (nI_add i 4) (by omega) hL dL_law_425 ?_
  refine lv_aload_n hx hb dL_law_426 rfl (lv_at hl 0 rfl) ?_
  refine lv_iload_n hx hb dL_law_427 rfl (lv_at hl 3 rfl) ?_
  refine lv_iconst (v := (5 : Int32)) hx hb dL_law_428 (by decide) ?_
  refine lv_iadd hx hb dL_law_429 ?_
  refine l_sld (i := i) (k := 5) C0 hX hbl hbA hw.1.2.2.2.1 (nI_add i 5) (by omega) hL dL_law_430 ?_
  refine l_callMi hw (va_runV (As := [.int (xs (i + 1)), .int (xs (i + 2)), .int (xs (i + 3)), .int (xs (i + 4)), .int (xs (i + 5))]) (rest := [.int r]) C0 (kX9_copy (hRN _ _ _ hR).1 h2 _) (cwV 5 hts gL_law_X9_copy rfl rfl rfl eL_X9_copy ⟨(Nat.le_of_ble_eq_true rfl), (Nat.le_of_ble_eq_true rfl)⟩) ⟨q_blind, q_recv (l_M hw) (mN_0 (hRN _ _ _ hR).1) (mE_0 (hRN _ _ _ hR).1) rfl, q_pre (l_M hw)⟩ rfl rfl hl.1 rfl (lv_room (Nat.le_of_ble_eq_true rfl)) dL_law_431 ⟨(show cells + 0 ≤ 600000 by omega), (show slots + 0 ≤ 7302250 by omega)⟩) (fun H locs hw => ?_)
  refine lv_icmp_eq (tgt := 1847) hx hb dL_law_434 (by decide) (fun _ => ?_) (fun z => absurd rfl z)
  refine W.widen (k := cells + 29) (n := slots + 1060) (by omega) (by omega) ?_
  exact kk _ _ _ _ _ _ _ hR' hw hl
set_option maxHeartbeats 4000000 in
set_option maxRecDepth 100000 in
theorem lc_element (hop : Op_element R) (hRN : ∀ σ τ N, R σ τ N → mB N 0 ∧ N % 29 = 0 ∧ N ≤ 87 ∧ mV N τ) (C0 : CallFix p m c code 4 s #[Value.ref b] wsL_law RL) (hX : va_X b L xs s s.heap) (hbl : b < s.heap.size) (hL : L < 2 ^ 31) (hi : i + 6 ≤ L) (hcs : cells + 29 ≤ 600000 ∧ slots + 1060 ≤ 7302250) (hR : R σ τ N) (hw : l_H D cI cJ cS cR adX adM adK adV N (fun q : Nat => s.heap.size ≤ q) s σ τ H locs) (hl : lv_has ls 4 [(0, .ref b), (1, .ref (adX 0)), (2, .ref (adM 0)), (3, .int (nI i))])
    (kk : ∀ (σ' τ' : q_M) (N' : Nat) (adM' : Nat → Nat) (H : Heap) (locs : List Loc) (ls : Array Slot), R σ' τ' N' → l_H D cI cJ cS cR adX adM' adK adV N' (fun q : Nat => s.heap.size ≤ q) s σ' τ' H locs → lv_has ls 4 [(0, .ref b), (1, .ref (adX 0)), (2, .ref (adM' 0)), (3, .int (nI i))] → W p l e room_1 s m #[Value.ref b] below meth c H locs (cells + 29) (slots + 1060) Q (F0 m 1847 ls [])) : W p l e room_1 s m #[Value.ref b] below meth c H locs cells slots Q (F0 m 439 ls []) := by
  obtain ⟨hx, hb, hml, hown, hts⟩ := id C0
  have hbA : ¬ (fun q : Nat => s.heap.size ≤ q) b := Nat.not_le.mpr hbl
  refine lv_aload_n hx hb dL_law_439 rfl (lv_at hl 1 rfl) ?_
  refine lv_aload_n hx hb dL_law_440 rfl (lv_at hl 0 rfl) ?_
  refine lv_iload_n hx hb dL_law_441 rfl (lv_at hl 3 rfl) ?_
  refine lv_iconst (v := (1 : Int32)) hx hb dL_law_442 (by decide) ?_
  refine lv_iadd hx hb dL_law_443 ?_
  refine l_sld (i := i) (k := 1) C0 hX hbl hbA hw.1.2.2.2.1 (nI_add i 1) (by omega) hL dL_law_444 ?_
  refine lv_aload_n hx hb dL_law_445 rfl (lv_at hl 0 rfl) ?_
  refine lv_iload_n hx hb dL_law_446 rfl (lv_at hl 3 rfl) ?_
  refine lv_iconst (v := (2 : Int32)) hx hb dL_law_447 (by decide) ?_
  refine lv_iadd hx hb dL_law_448 ?_
  refine l_sld (i := i) (k := 2) C0 hX hbl hbA hw.1.2.2.2.1 (nI_add i 2) (by omega) hL dL_law_449 ?_
  obtain ⟨r, σ', τ', h1, h2, hR'⟩ := hop σ τ N (xs (i + 1)) (xs (i + 2)) hR
  refine l_callXl hw (va_runV (As := [.int (xs (i + 1)), .int (xs (i + 2))]) (rest := []) C0 (kX8_element h1 _) (cwV 2 hts gL_law_X8_element rfl rfl rfl eL_X8_element ⟨(Nat.le_of_ble_eq_true rfl), (Nat.le_of_ble_eq_true rfl)⟩) ⟨q_blind, q_recv (l_X hw) (xN_0 xF_0) (xE_0 xF_0) rfl, q_pre (l_X hw)⟩ rfl rfl hl.1 rfl (lv_room (Nat.le_of_ble_eq_true rfl)) dL_law_450 ⟨(show cells + 0 ≤ 600000 by omega), (show slots + 0 ≤ 7302250 by omega)⟩) (fun H locs hw => ?_)
  refine lv_aload_n hx hb dL_law_453 rfl (lv_at hl 2 rfl) ?_
  refine lv_aload_n hx hb dL_law_454 rfl (lv_at hl 0 rfl) ?_
  refine lv_iload_n hx hb dL_law_455 rfl (lv_at hl 3 rfl) ?_
  refine lv_iconst (v := (1 : Int32)) hx hb dL_law_456 (by decide) ?_
  refine lv_iadd hx hb dL_law_457 ?_
  refine l_sld (i := i) (k := 1) C0 hX hbl hbA hw.1.2.2.2.1 (nI_add i 1) (by omega) hL dL_law_458 ?_
  refine lv_aload_n hx hb dL_law_459 rfl (lv_at hl 0 rfl) ?_
  refine lv_iload_n hx hb dL_law_460 rfl (lv_at hl 3 rfl) ?_
  refine lv_iconst (v := (2 : Int32)) hx hb dL_law_461 (by decide) ?_
  refine lv_iadd hx hb dL_law_462 ?_
  refine l_sld (i := i) (k := 2) C0 hX hbl hbA hw.1.2.2.2.1 (nI_add i 2) (by omega) hL dL_law_463 ?_
  refine l_callMl hw (va_runV (As := [.int (xs (i + 1)), .int (xs (i + 2))]) (rest := [.long r]) C0 (kX9_element (hRN _ _ _ hR).1 h2 _) (cwV 2 hts gL_law_X9_element rfl rfl rfl eL_X9_element ⟨(Nat.le_of_ble_eq_true rfl), (Nat.le_of_ble_eq_true rfl)⟩) ⟨q_blind, q_recv (l_M hw) (mN_0 (hRN _ _ _ hR).1) (mE_0 (hRN _ _ _ hR).1) rfl, q_pre (l_M hw)⟩ rfl rfl hl.1 rfl (lv_room (Nat.le_of_ble_eq_true rfl)) dL_law_464 ⟨(show cells + 0 ≤ 600000 by omega), (show slots + 0 ≤ 7302250 by omega)⟩) (fun H locs hw => ?_)
  refine q_lcmp_eq (tgt := 1847) C0 dL_law_467 dL_law_468 (by decide) (fun _ => ?_) (fun z => absurd rfl z)
  refine W.widen (k := cells + 29) (n := slots + 1060) (by omega) (by omega) ?_
  exact kk _ _ _ _ _ _ _ hR' hw hl
set_option maxHeartbeats 4000000 in
set_option maxRecDepth 100000 in
theorem lc_holds (hop : Op_holds R) (hRN : ∀ σ τ N, R σ τ N → mB N 0 ∧ N % 29 = 0 ∧ N ≤ 87 ∧ mV N τ) (C0 : CallFix p m c code 4 s #[Value.ref b] wsL_law RL) (hX : va_X b L xs s s.heap) (hbl : b < s.heap.size) (hL : L < 2 ^ 31) (hi : i + 6 ≤ L) (hcs : cells + 29 ≤ 600000 ∧ slots + 1060 ≤ 7302250) (hR : R σ τ N) (hw : l_H D cI cJ cS cR adX adM adK adV N (fun q : Nat => s.heap.size ≤ q) s σ τ H locs) (hl : lv_has ls 4 [(0, .ref b), (1, .ref (adX 0)), (2, .ref (adM 0)), (3, .int (nI i))])
    (kk : ∀ (σ' τ' : q_M) (N' : Nat) (adM' : Nat → Nat) (H : Heap) (locs : List Loc) (ls : Array Slot), R σ' τ' N' → l_H D cI cJ cS cR adX adM' adK adV N' (fun q : Nat => s.heap.size ≤ q) s σ' τ' H locs → lv_has ls 4 [(0, .ref b), (1, .ref (adX 0)), (2, .ref (adM' 0)), (3, .int (nI i))] → W p l e room_1 s m #[Value.ref b] below meth c H locs (cells + 29) (slots + 1060) Q (F0 m 1847 ls [])) : W p l e room_1 s m #[Value.ref b] below meth c H locs cells slots Q (F0 m 473 ls []) := by
  obtain ⟨hx, hb, hml, hown, hts⟩ := id C0
  have hbA : ¬ (fun q : Nat => s.heap.size ≤ q) b := Nat.not_le.mpr hbl
  refine lv_aload_n hx hb dL_law_473 rfl (lv_at hl 1 rfl) ?_
  refine lv_aload_n hx hb dL_law_474 rfl (lv_at hl 0 rfl) ?_
  refine lv_iload_n hx hb dL_law_475 rfl (lv_at hl 3 rfl) ?_
  refine lv_iconst (v := (1 : Int32)) hx hb dL_law_476 (by decide) ?_
  refine lv_iadd hx hb dL_law_477 ?_
  refine l_sld (i := i) (k := 1) C0 hX hbl hbA hw.1.2.2.2.1 (nI_add i 1) (by omega) hL dL_law_478 ?_
  obtain ⟨r, σ', τ', h1, h2, hR'⟩ := hop σ τ N (xs (i + 1)) hR
  refine l_callXi hw (va_runV (As := [.int (xs (i + 1))]) (rest := []) C0 (kX8_holds h1 _) (cwV 1 hts gL_law_X8_holds rfl rfl rfl eL_X8_holds ⟨(Nat.le_of_ble_eq_true rfl), (Nat.le_of_ble_eq_true rfl)⟩) ⟨q_blind, q_recv (l_X hw) (xN_0 xF_0) (xE_0 xF_0) rfl, q_pre (l_X hw)⟩ rfl rfl hl.1 rfl (lv_room (Nat.le_of_ble_eq_true rfl)) dL_law_479 ⟨(show cells + 0 ≤ 600000 by omega), (show slots + 0 ≤ 7302250 by omega)⟩) (fun H locs hw => ?_)
  refine lv_aload_n hx hb dL_law_482 rfl (lv_at hl 2 rfl) ?_
  refine lv_aload_n hx hb dL_law_483 rfl (lv_at hl 0 rfl) ?_
  refine lv_iload_n hx hb dL_law_484 rfl (lv_at hl 3 rfl) ?_
  refine lv_iconst (v := (1 : Int32)) hx hb dL_law_485 (by decide) ?_
  refine lv_iadd hx hb dL_law_486 ?_
  refine l_sld (i := i) (k := 1) C0 hX hbl hbA hw.1.2.2.2.1 (nI_add i 1) (by omega) hL dL_law_487 ?_
  refine l_callMi hw (va_runV (As := [.int (xs (i + 1))]) (rest := [.int r]) C0 (kX9_holds (hRN _ _ _ hR).1 h2 _) (cwV 1 hts gL_law_X9_holds rfl rfl rfl eL_X9_holds ⟨(Nat.le_of_ble_eq_true rfl), (Nat.le_of_ble_eq_true rfl)⟩) ⟨q_blind, q_recv (l_M hw) (mN_0 (hRN _ _ _ hR).1) (mE_0 (hRN _ _ _ hR).1) rfl, q_pre (l_M hw)⟩ rfl rfl hl.1 rfl (lv_room (Nat.le_of_ble_eq_true rfl)) dL_law_488 ⟨(show cells + 0 ≤ 600000 by omega), (show slots + 0 ≤ 7302250 by omega)⟩) (fun H locs hw => ?_)
  refine lv_icmp_eq (tgt := 1847) hx hb dL_law_491 (by decide) (fun _ => ?_) (fun z => absurd rfl z)
  refine W.widen (k := cells + 29) (n := slots + 1060) (by omega) (by omega) ?_
  exact kk _ _ _ _ _ _ _ hR' hw hl
set_option maxHeartbeats 4000000 in
set_option maxRecDepth 100000 in
theorem lc_move (hop : Op_move R) (hRN : ∀ σ τ N, R σ τ N → mB N 0 ∧ N % 29 = 0 ∧ N ≤ 87 ∧ mV N τ) (C0 : CallFix p m c code 4 s #[Value.ref b] wsL_law RL) (hX : va_X b L xs s s.heap) (hbl : b < s.heap.size) (hL : L < 2 ^ 31) (hi : i + 6 ≤ L) (hcs : cells + 29 ≤ 600000 ∧ slots + 1060 ≤ 7302250) (hR : R σ τ N) (hw : l_H D cI cJ cS cR adX adM adK adV N (fun q : Nat => s.heap.size ≤ q) s σ τ H locs) (hl : lv_has ls 4 [(0, .ref b), (1, .ref (adX 0)), (2, .ref (adM 0)), (3, .int (nI i))])
    (kk : ∀ (σ' τ' : q_M) (N' : Nat) (adM' : Nat → Nat) (H : Heap) (locs : List Loc) (ls : Array Slot), R σ' τ' N' → l_H D cI cJ cS cR adX adM' adK adV N' (fun q : Nat => s.heap.size ≤ q) s σ' τ' H locs → lv_has ls 4 [(0, .ref b), (1, .ref (adX 0)), (2, .ref (adM' 0)), (3, .int (nI i))] → W p l e room_1 s m #[Value.ref b] below meth c H locs (cells + 29) (slots + 1060) Q (F0 m 1847 ls [])) : W p l e room_1 s m #[Value.ref b] below meth c H locs cells slots Q (F0 m 496 ls []) := by
  obtain ⟨hx, hb, hml, hown, hts⟩ := id C0
  have hbA : ¬ (fun q : Nat => s.heap.size ≤ q) b := Nat.not_le.mpr hbl
  refine lv_aload_n hx hb dL_law_496 rfl (lv_at hl 1 rfl) ?_
  refine lv_aload_n hx hb dL_law_497 rfl (lv_at hl 0 rfl) ?_
  refine lv_iload_n hx hb dL_law_498 rfl (lv_at hl 3 rfl) ?_
  refine lv_iconst (v := (1 : Int32)) hx hb dL_law_499 (by decide) ?_
  refine lv_iadd hx hb dL_law_500 ?_
  refine l_sld (i := i) (k := 1) C0 hX hbl hbA hw.1.2.2.2.1 (nI_add i 1) (by omega) hL dL_law_501 ?_
  refine lv_aload_n hx hb dL_law_502 rfl (lv_at hl 0 rfl) ?_
  refine lv_iload_n hx hb dL_law_503 rfl (lv_at hl 3 rfl) ?_
  refine lv_iconst (v := (2 : Int32)) hx hb dL_law_504 (by decide) ?_
  refine lv_iadd hx hb dL_law_505 ?_
  refine l_sld (i := i) (k := 2) C0 hX hbl hbA hw.1.2.2.2.1 (nI_add i 2) (by omega) hL dL_law_506 ?_
  refine lv_aload_n hx hb dL_law_507 rfl (lv_at hl 0 rfl) ?_
  refine lv_iload_n hx hb dL_law_508 rfl (lv_at hl 3 rfl) ?_
  refine lv_iconst (v := (3 : Int32)) hx hb dL_law_509 (by decide) ?_
  refine lv_iadd hx hb dL_law_510 ?_
  refine l_sld (i := i) (k := 3) C0 hX hbl hbA hw.1.2.2.2.1 (nI_add i 3) (by omega) hL dL_law_511 ?_
  refine lv_aload_n hx hb dL_law_512 rfl (lv_at hl 0 rfl) ?_
  refine lv_iload_n hx hb dL_law_513 rfl (lv_at hl 3 rfl) ?_
  refine lv_iconst (v := (4 : Int32)) hx hb dL_law_514 (by decide) ?_
  refine lv_iadd hx hb dL_law_515 ?_
  refine l_sld (i := i) (k := 4) C0 hX hbl hbA hw.1.2.2.2.1 (nI_add i 4) (by omega) hL dL_law_516 ?_
  obtain ⟨r, σ', τ', h1, h2, hR'⟩ := hop σ τ N (xs (i + 1)) (xs (i + 2)) (xs (i + 3)) (xs (i + 4)) hR
  refine l_callXi hw (va_runV (As := [.int (xs (i + 1)), .int (xs (i + 2)), .int (xs (i + 3)), .int (xs (i + 4))]) (rest := []) C0 (kX8_move h1 _) (cwV 4 hts gL_law_X8_move rfl rfl rfl eL_X8_move ⟨(Nat.le_of_ble_eq_true rfl), (Nat.le_of_ble_eq_true rfl)⟩) ⟨q_blind, q_recv (l_X hw) (xN_0 xF_0) (xE_0 xF_0) rfl, q_pre (l_X hw)⟩ rfl rfl hl.1 rfl (lv_room (Nat.le_of_ble_eq_true rfl)) dL_law_517 ⟨(show cells + 0 ≤ 600000 by omega), (show slots + 0 ≤ 7302250 by omega)⟩) (fun H locs hw => ?_)
  refine lv_aload_n hx hb dL_law_520 rfl (lv_at hl 2 rfl) ?_
  refine lv_aload_n hx hb dL_law_521 rfl (lv_at hl 0 rfl) ?_
  refine lv_iload_n hx hb dL_law_522 rfl (lv_at hl 3 rfl) ?_
  refine lv_iconst (v := (1 : Int32)) hx hb dL_law_523 (by decide) ?_
  refine lv_iadd hx hb dL_law_524 ?_
  refine l_sld (i := i) (k := 1) C0 hX hbl hbA hw.1.2.2.2.1 (nI_add i 1) (by omega) hL dL_law_525 ?_
  refine lv_aload_n hx hb dL_law_526 rfl (lv_at hl 0 rfl) ?_
  refine lv_iload_n hx hb dL_law_527 rfl (lv_at hl 3 rfl) ?_
  refine lv_iconst (v := (2 : Int32)) hx hb dL_law_528 (by decide) ?_
  refine lv_iadd hx hb dL_law_529 ?_
  refine l_sld (i := i) (k := 2) C0 hX hbl hbA hw.1.2.2.2.1 (nI_add i 2) (by omega) hL dL_law_530 ?_
  refine lv_aload_n hx hb dL_law_531 rfl (lv_at hl 0 rfl) ?_
  refine lv_iload_n hx hb dL_law_532 rfl (lv_at hl 3 rfl) ?_
  refine lv_iconst (v := (3 : Int32)) hx hb dL_law_533 (by decide) ?_
  refine lv_iadd hx hb dL_law_534 ?_
  refine l_sld (i := i) (k := 3) C0 hX hbl hbA hw.1.2.2.2.1 (nI_add i 3) (by omega) hL dL_law_535 ?_
  refine lv_aload_n hx hb dL_law_536 rfl (lv_at hl 0 rfl) ?_
  refine lv_iload_n hx hb dL_law_537 rfl (lv_at hl 3 rfl) ?_
  refine lv_iconst (v := (4 : Int32)) hx hb dL_law_538 (by decide) ?_
  refine lv_iadd hx hb dL_law_539 ?_
  refine l_sld (i := i) (k := 4) C0 hX hbl hbA hw.1.2.2.2.1 (nI_add i 4) (by omega) hL dL_law_540 ?_
  refine l_callMi hw (va_runV (As := [.int (xs (i + 1)), .int (xs (i + 2)), .int (xs (i + 3)), .int (xs (i + 4))]) (rest := [.int r]) C0 (kX9_move (hRN _ _ _ hR).1 h2 _) (cwV 4 hts gL_law_X9_move rfl rfl rfl eL_X9_move ⟨(Nat.le_of_ble_eq_true rfl), (Nat.le_of_ble_eq_true rfl)⟩) ⟨q_blind, q_recv (l_M hw) (mN_0 (hRN _ _ _ hR).1) (mE_0 (hRN _ _ _ hR).1) rfl, q_pre (l_M hw)⟩ rfl rfl hl.1 rfl (lv_room (Nat.le_of_ble_eq_true rfl)) dL_law_541 ⟨(show cells + 0 ≤ 600000 by omega), (show slots + 0 ≤ 7302250 by omega)⟩) (fun H locs hw => ?_)
  refine lv_icmp_eq (tgt := 1847) hx hb dL_law_544 (by decide) (fun _ => ?_) (fun z => absurd rfl z)
  refine W.widen (k := cells + 29) (n := slots + 1060) (by omega) (by omega) ?_
  exact kk _ _ _ _ _ _ _ hR' hw hl
set_option maxHeartbeats 4000000 in
set_option maxRecDepth 100000 in
theorem lc_says (hop : Op_says R) (hRN : ∀ σ τ N, R σ τ N → mB N 0 ∧ N % 29 = 0 ∧ N ≤ 87 ∧ mV N τ) (C0 : CallFix p m c code 4 s #[Value.ref b] wsL_law RL) (hX : va_X b L xs s s.heap) (hbl : b < s.heap.size) (hL : L < 2 ^ 31) (hi : i + 6 ≤ L) (hcs : cells + 29 ≤ 600000 ∧ slots + 1060 ≤ 7302250) (hR : R σ τ N) (hw : l_H D cI cJ cS cR adX adM adK adV N (fun q : Nat => s.heap.size ≤ q) s σ τ H locs) (hl : lv_has ls 4 [(0, .ref b), (1, .ref (adX 0)), (2, .ref (adM 0)), (3, .int (nI i))])
    (kk : ∀ (σ' τ' : q_M) (N' : Nat) (adM' : Nat → Nat) (H : Heap) (locs : List Loc) (ls : Array Slot), R σ' τ' N' → l_H D cI cJ cS cR adX adM' adK adV N' (fun q : Nat => s.heap.size ≤ q) s σ' τ' H locs → lv_has ls 4 [(0, .ref b), (1, .ref (adX 0)), (2, .ref (adM' 0)), (3, .int (nI i))] → W p l e room_1 s m #[Value.ref b] below meth c H locs (cells + 29) (slots + 1060) Q (F0 m 1847 ls [])) : W p l e room_1 s m #[Value.ref b] below meth c H locs cells slots Q (F0 m 549 ls []) := by
  obtain ⟨hx, hb, hml, hown, hts⟩ := id C0
  have hbA : ¬ (fun q : Nat => s.heap.size ≤ q) b := Nat.not_le.mpr hbl
  refine lv_aload_n hx hb dL_law_549 rfl (lv_at hl 1 rfl) ?_
  refine lv_aload_n hx hb dL_law_550 rfl (lv_at hl 0 rfl) ?_
  refine lv_iload_n hx hb dL_law_551 rfl (lv_at hl 3 rfl) ?_
  refine lv_iconst (v := (1 : Int32)) hx hb dL_law_552 (by decide) ?_
  refine lv_iadd hx hb dL_law_553 ?_
  refine l_sld (i := i) (k := 1) C0 hX hbl hbA hw.1.2.2.2.1 (nI_add i 1) (by omega) hL dL_law_554 ?_
  refine lv_aload_n hx hb dL_law_555 rfl (lv_at hl 0 rfl) ?_
  refine lv_iload_n hx hb dL_law_556 rfl (lv_at hl 3 rfl) ?_
  refine lv_iconst (v := (2 : Int32)) hx hb dL_law_557 (by decide) ?_
  refine lv_iadd hx hb dL_law_558 ?_
  refine l_sld (i := i) (k := 2) C0 hX hbl hbA hw.1.2.2.2.1 (nI_add i 2) (by omega) hL dL_law_559 ?_
  obtain ⟨r, σ', τ', h1, h2, hR'⟩ := hop σ τ N (xs (i + 1)) (xs (i + 2)) hR
  refine l_callXi hw (va_runV (As := [.int (xs (i + 1)), .int (xs (i + 2))]) (rest := []) C0 (kX8_says h1 _) (cwV 2 hts gL_law_X8_says rfl rfl rfl eL_X8_says ⟨(Nat.le_of_ble_eq_true rfl), (Nat.le_of_ble_eq_true rfl)⟩) ⟨q_blind, q_recv (l_X hw) (xN_0 xF_0) (xE_0 xF_0) rfl, q_pre (l_X hw)⟩ rfl rfl hl.1 rfl (lv_room (Nat.le_of_ble_eq_true rfl)) dL_law_560 ⟨(show cells + 0 ≤ 600000 by omega), (show slots + 0 ≤ 7302250 by omega)⟩) (fun H locs hw => ?_)
  refine lv_aload_n hx hb dL_law_563 rfl (lv_at hl 2 rfl) ?_
  refine lv_aload_n hx hb dL_law_564 rfl (lv_at hl 0 rfl) ?_
  refine lv_iload_n hx hb dL_law_565 rfl (lv_at hl 3 rfl) ?_
  refine lv_iconst (v := (1 : Int32)) hx hb dL_law_566 (by decide) ?_
  refine lv_iadd hx hb dL_law_567 ?_
  refine l_sld (i := i) (k := 1) C0 hX hbl hbA hw.1.2.2.2.1 (nI_add i 1) (by omega) hL dL_law_568 ?_
  refine lv_aload_n hx hb dL_law_569 rfl (lv_at hl 0 rfl) ?_
  refine lv_iload_n hx hb dL_law_570 rfl (lv_at hl 3 rfl) ?_
  refine lv_iconst (v := (2 : Int32)) hx hb dL_law_571 (by decide) ?_
  refine lv_iadd hx hb dL_law_572 ?_
  refine l_sld (i := i) (k := 2) C0 hX hbl hbA hw.1.2.2.2.1 (nI_add i 2) (by omega) hL dL_law_573 ?_
  refine l_callMi hw (va_runV (As := [.int (xs (i + 1)), .int (xs (i + 2))]) (rest := [.int r]) C0 (kX9_says (hRN _ _ _ hR).1 h2 _) (cwV 2 hts gL_law_X9_says rfl rfl rfl eL_X9_says ⟨(Nat.le_of_ble_eq_true rfl), (Nat.le_of_ble_eq_true rfl)⟩) ⟨q_blind, q_recv (l_M hw) (mN_0 (hRN _ _ _ hR).1) (mE_0 (hRN _ _ _ hR).1) rfl, q_pre (l_M hw)⟩ rfl rfl hl.1 rfl (lv_room (Nat.le_of_ble_eq_true rfl)) dL_law_574 ⟨(show cells + 0 ≤ 600000 by omega), (show slots + 0 ≤ 7302250 by omega)⟩) (fun H locs hw => ?_)
  refine lv_icmp_eq (tgt := 1847) hx hb dL_law_577 (by decide) (fun _ => ?_) (fun z => absurd rfl z)
  refine W.widen (k := cells + 29) (n := slots + 1060) (by omega) (by omega) ?_
  exact kk _ _ _ _ _ _ _ hR' hw hl
set_option maxHeartbeats 4000000 in
set_option maxRecDepth 100000 in
theorem lc_size (hop : Op_size R) (hRN : ∀ σ τ N, R σ τ N → mB N 0 ∧ N % 29 = 0 ∧ N ≤ 87 ∧ mV N τ) (C0 : CallFix p m c code 4 s #[Value.ref b] wsL_law RL) (hX : va_X b L xs s s.heap) (hbl : b < s.heap.size) (hL : L < 2 ^ 31) (hi : i + 6 ≤ L) (hcs : cells + 29 ≤ 600000 ∧ slots + 1060 ≤ 7302250) (hR : R σ τ N) (hw : l_H D cI cJ cS cR adX adM adK adV N (fun q : Nat => s.heap.size ≤ q) s σ τ H locs) (hl : lv_has ls 4 [(0, .ref b), (1, .ref (adX 0)), (2, .ref (adM 0)), (3, .int (nI i))])
    (kk : ∀ (σ' τ' : q_M) (N' : Nat) (adM' : Nat → Nat) (H : Heap) (locs : List Loc) (ls : Array Slot), R σ' τ' N' → l_H D cI cJ cS cR adX adM' adK adV N' (fun q : Nat => s.heap.size ≤ q) s σ' τ' H locs → lv_has ls 4 [(0, .ref b), (1, .ref (adX 0)), (2, .ref (adM' 0)), (3, .int (nI i))] → W p l e room_1 s m #[Value.ref b] below meth c H locs (cells + 29) (slots + 1060) Q (F0 m 1847 ls [])) : W p l e room_1 s m #[Value.ref b] below meth c H locs cells slots Q (F0 m 582 ls []) := by
  obtain ⟨hx, hb, hml, hown, hts⟩ := id C0
  have hbA : ¬ (fun q : Nat => s.heap.size ≤ q) b := Nat.not_le.mpr hbl
  refine lv_aload_n hx hb dL_law_582 rfl (lv_at hl 1 rfl) ?_
  refine lv_aload_n hx hb dL_law_583 rfl (lv_at hl 0 rfl) ?_
  refine lv_iload_n hx hb dL_law_584 rfl (lv_at hl 3 rfl) ?_
  refine lv_iconst (v := (1 : Int32)) hx hb dL_law_585 (by decide) ?_
  refine lv_iadd hx hb dL_law_586 ?_
  refine l_sld (i := i) (k := 1) C0 hX hbl hbA hw.1.2.2.2.1 (nI_add i 1) (by omega) hL dL_law_587 ?_
  obtain ⟨r, σ', τ', h1, h2, hR'⟩ := hop σ τ N (xs (i + 1)) hR
  refine l_callXi hw (va_runV (As := [.int (xs (i + 1))]) (rest := []) C0 (kX8_size h1 _) (cwV 1 hts gL_law_X8_size rfl rfl rfl eL_X8_size ⟨(Nat.le_of_ble_eq_true rfl), (Nat.le_of_ble_eq_true rfl)⟩) ⟨q_blind, q_recv (l_X hw) (xN_0 xF_0) (xE_0 xF_0) rfl, q_pre (l_X hw)⟩ rfl rfl hl.1 rfl (lv_room (Nat.le_of_ble_eq_true rfl)) dL_law_588 ⟨(show cells + 0 ≤ 600000 by omega), (show slots + 0 ≤ 7302250 by omega)⟩) (fun H locs hw => ?_)
  refine lv_aload_n hx hb dL_law_591 rfl (lv_at hl 2 rfl) ?_
  refine lv_aload_n hx hb dL_law_592 rfl (lv_at hl 0 rfl) ?_
  refine lv_iload_n hx hb dL_law_593 rfl (lv_at hl 3 rfl) ?_
  refine lv_iconst (v := (1 : Int32)) hx hb dL_law_594 (by decide) ?_
  refine lv_iadd hx hb dL_law_595 ?_
  refine l_sld (i := i) (k := 1) C0 hX hbl hbA hw.1.2.2.2.1 (nI_add i 1) (by omega) hL dL_law_596 ?_
  refine l_callMi hw (va_runV (As := [.int (xs (i + 1))]) (rest := [.int r]) C0 (kX9_size (hRN _ _ _ hR).1 h2 _) (cwV 1 hts gL_law_X9_size rfl rfl rfl eL_X9_size ⟨(Nat.le_of_ble_eq_true rfl), (Nat.le_of_ble_eq_true rfl)⟩) ⟨q_blind, q_recv (l_M hw) (mN_0 (hRN _ _ _ hR).1) (mE_0 (hRN _ _ _ hR).1) rfl, q_pre (l_M hw)⟩ rfl rfl hl.1 rfl (lv_room (Nat.le_of_ble_eq_true rfl)) dL_law_597 ⟨(show cells + 0 ≤ 600000 by omega), (show slots + 0 ≤ 7302250 by omega)⟩) (fun H locs hw => ?_)
  refine lv_icmp_eq (tgt := 1847) hx hb dL_law_600 (by decide) (fun _ => ?_) (fun z => absurd rfl z)
  refine W.widen (k := cells + 29) (n := slots + 1060) (by omega) (by omega) ?_
  exact kk _ _ _ _ _ _ _ hR' hw hl
set_option maxHeartbeats 4000000 in
set_option maxRecDepth 100000 in
theorem lc_solid (hop : Op_solid R) (hRN : ∀ σ τ N, R σ τ N → mB N 0 ∧ N % 29 = 0 ∧ N ≤ 87 ∧ mV N τ) (C0 : CallFix p m c code 4 s #[Value.ref b] wsL_law RL) (hX : va_X b L xs s s.heap) (hbl : b < s.heap.size) (hL : L < 2 ^ 31) (hi : i + 6 ≤ L) (hcs : cells + 29 ≤ 600000 ∧ slots + 1060 ≤ 7302250) (hR : R σ τ N) (hw : l_H D cI cJ cS cR adX adM adK adV N (fun q : Nat => s.heap.size ≤ q) s σ τ H locs) (hl : lv_has ls 4 [(0, .ref b), (1, .ref (adX 0)), (2, .ref (adM 0)), (3, .int (nI i))])
    (kk : ∀ (σ' τ' : q_M) (N' : Nat) (adM' : Nat → Nat) (H : Heap) (locs : List Loc) (ls : Array Slot), R σ' τ' N' → l_H D cI cJ cS cR adX adM' adK adV N' (fun q : Nat => s.heap.size ≤ q) s σ' τ' H locs → lv_has ls 4 [(0, .ref b), (1, .ref (adX 0)), (2, .ref (adM' 0)), (3, .int (nI i))] → W p l e room_1 s m #[Value.ref b] below meth c H locs (cells + 29) (slots + 1060) Q (F0 m 1847 ls [])) : W p l e room_1 s m #[Value.ref b] below meth c H locs cells slots Q (F0 m 605 ls []) := by
  obtain ⟨hx, hb, hml, hown, hts⟩ := id C0
  have hbA : ¬ (fun q : Nat => s.heap.size ≤ q) b := Nat.not_le.mpr hbl
  refine lv_aload_n hx hb dL_law_605 rfl (lv_at hl 1 rfl) ?_
  refine lv_aload_n hx hb dL_law_606 rfl (lv_at hl 0 rfl) ?_
  refine lv_iload_n hx hb dL_law_607 rfl (lv_at hl 3 rfl) ?_
  refine lv_iconst (v := (1 : Int32)) hx hb dL_law_608 (by decide) ?_
  refine lv_iadd hx hb dL_law_609 ?_
  refine l_sld (i := i) (k := 1) C0 hX hbl hbA hw.1.2.2.2.1 (nI_add i 1) (by omega) hL dL_law_610 ?_
  refine lv_i2l hx hb dL_law_611 rfl ?_
  refine lv_bipush (v := (32 : Int32)) hx hb dL_law_612 (by decide) ?_
  refine lv_lshl (v := (q_shl (xs (i + 1)).toInt64 (32 : Int32))) hx hb dL_law_614 rfl ?_
  refine lv_aload_n hx hb dL_law_615 rfl (lv_at hl 0 rfl) ?_
  refine lv_iload_n hx hb dL_law_616 rfl (lv_at hl 3 rfl) ?_
  refine lv_iconst (v := (2 : Int32)) hx hb dL_law_617 (by decide) ?_
  refine lv_iadd hx hb dL_law_618 ?_
  refine l_sld (i := i) (k := 2) C0 hX hbl hbA hw.1.2.2.2.1 (nI_add i 2) (by omega) hL dL_law_619 ?_
  refine lv_i2l hx hb dL_law_620 rfl ?_
  refine lv_ldc2 (v := (4294967295 : Int64)) hx hb hown (hts (.constantLong RL 18 (4294967295)) (by decide +kernel)) dL_law_621 ?_
  refine lv_land hx hb dL_law_624 ?_
  refine lv_lor hx hb dL_law_625 ?_
  refine lv_aload_n hx hb dL_law_626 rfl (lv_at hl 0 rfl) ?_
  refine lv_iload_n hx hb dL_law_627 rfl (lv_at hl 3 rfl) ?_
  refine lv_iconst (v := (3 : Int32)) hx hb dL_law_628 (by decide) ?_
  refine lv_iadd hx hb dL_law_629 ?_
  refine l_sld (i := i) (k := 3) C0 hX hbl hbA hw.1.2.2.2.1 (nI_add i 3) (by omega) hL dL_law_630 ?_
  refine lv_if_eq (tgt := 638) hx hb dL_law_631 (by decide) (fun c1 => ?_) (fun c1 => ?_)
  ·
    refine lv_iconst (v := (0 : Int32)) hx hb dL_law_638 (by decide) ?_
    obtain ⟨r, σ', τ', h1, h2, hR'⟩ := hop σ τ N ((q_shl (xs (i + 1)).toInt64 (32 : Int32)) ||| ((xs (i + 2)).toInt64 &&& (4294967295 : Int64))) (0 : Int32) (by decide) hR
    refine l_callXi hw (va_runV (As := [.long ((q_shl (xs (i + 1)).toInt64 (32 : Int32)) ||| ((xs (i + 2)).toInt64 &&& (4294967295 : Int64))), .int (0 : Int32)]) (rest := []) C0 (kX8_solid h1 _) (cwV 2 hts gL_law_X8_solid rfl rfl rfl eL_X8_solid ⟨(Nat.le_of_ble_eq_true rfl), (Nat.le_of_ble_eq_true rfl)⟩) ⟨q_blind, q_recv (l_X hw) (xN_0 xF_0) (xE_0 xF_0) rfl, q_pre (l_X hw)⟩ rfl rfl hl.1 rfl (lv_room (Nat.le_of_ble_eq_true rfl)) dL_law_639 ⟨(show cells + 0 ≤ 600000 by omega), (show slots + 0 ≤ 7302250 by omega)⟩) (fun H locs hw => ?_)
    refine lv_aload_n hx hb dL_law_642 rfl (lv_at hl 2 rfl) ?_
    refine lv_aload_n hx hb dL_law_643 rfl (lv_at hl 0 rfl) ?_
    refine lv_iload_n hx hb dL_law_644 rfl (lv_at hl 3 rfl) ?_
    refine lv_iconst (v := (1 : Int32)) hx hb dL_law_645 (by decide) ?_
    refine lv_iadd hx hb dL_law_646 ?_
    refine l_sld (i := i) (k := 1) C0 hX hbl hbA hw.1.2.2.2.1 (nI_add i 1) (by omega) hL dL_law_647 ?_
    refine lv_i2l hx hb dL_law_648 rfl ?_
    refine lv_bipush (v := (32 : Int32)) hx hb dL_law_649 (by decide) ?_
    refine lv_lshl (v := (q_shl (xs (i + 1)).toInt64 (32 : Int32))) hx hb dL_law_651 rfl ?_
    refine lv_aload_n hx hb dL_law_652 rfl (lv_at hl 0 rfl) ?_
    refine lv_iload_n hx hb dL_law_653 rfl (lv_at hl 3 rfl) ?_
    refine lv_iconst (v := (2 : Int32)) hx hb dL_law_654 (by decide) ?_
    refine lv_iadd hx hb dL_law_655 ?_
    refine l_sld (i := i) (k := 2) C0 hX hbl hbA hw.1.2.2.2.1 (nI_add i 2) (by omega) hL dL_law_656 ?_
    refine lv_i2l hx hb dL_law_657 rfl ?_
    refine lv_ldc2 (v := (4294967295 : Int64)) hx hb hown (hts (.constantLong RL 18 (4294967295)) (by decide +kernel)) dL_law_658 ?_
    refine lv_land hx hb dL_law_661 ?_
    refine lv_lor hx hb dL_law_662 ?_
    refine lv_aload_n hx hb dL_law_663 rfl (lv_at hl 0 rfl) ?_
    refine lv_iload_n hx hb dL_law_664 rfl (lv_at hl 3 rfl) ?_
    refine lv_iconst (v := (3 : Int32)) hx hb dL_law_665 (by decide) ?_
    refine lv_iadd hx hb dL_law_666 ?_
    refine l_sld (i := i) (k := 3) C0 hX hbl hbA hw.1.2.2.2.1 (nI_add i 3) (by omega) hL dL_law_667 ?_
    refine lv_if_eq (tgt := 675) hx hb dL_law_668 (by decide) (fun _ => ?_) (fun z => absurd c1 z)
    refine lv_iconst (v := (0 : Int32)) hx hb dL_law_675 (by decide) ?_
    refine l_callMi hw (va_runV (As := [.long ((q_shl (xs (i + 1)).toInt64 (32 : Int32)) ||| ((xs (i + 2)).toInt64 &&& (4294967295 : Int64))), .int (0 : Int32)]) (rest := [.int r]) C0 (kX9_solid (hRN _ _ _ hR).1 h2 _) (cwV 2 hts gL_law_X9_solid rfl rfl rfl eL_X9_solid ⟨(Nat.le_of_ble_eq_true rfl), (Nat.le_of_ble_eq_true rfl)⟩) ⟨q_blind, q_recv (l_M hw) (mN_0 (hRN _ _ _ hR).1) (mE_0 (hRN _ _ _ hR).1) rfl, q_pre (l_M hw)⟩ rfl rfl hl.1 rfl (lv_room (Nat.le_of_ble_eq_true rfl)) dL_law_676 ⟨(show cells + 0 ≤ 600000 by omega), (show slots + 0 ≤ 7302250 by omega)⟩) (fun H locs hw => ?_)
    refine lv_icmp_eq (tgt := 1847) hx hb dL_law_679 (by decide) (fun _ => ?_) (fun z => absurd rfl z)
    refine W.widen (k := cells + 29) (n := slots + 1060) (by omega) (by omega) ?_
    exact kk _ _ _ _ _ _ _ hR' hw hl
  ·
    refine lv_iconst (v := (1 : Int32)) hx hb dL_law_634 (by decide) ?_
    refine lv_goto (tgt := 639) hx hb dL_law_635 (by decide) ?_
    obtain ⟨r, σ', τ', h1, h2, hR'⟩ := hop σ τ N ((q_shl (xs (i + 1)).toInt64 (32 : Int32)) ||| ((xs (i + 2)).toInt64 &&& (4294967295 : Int64))) (1 : Int32) (by decide) hR
    refine l_callXi hw (va_runV (As := [.long ((q_shl (xs (i + 1)).toInt64 (32 : Int32)) ||| ((xs (i + 2)).toInt64 &&& (4294967295 : Int64))), .int (1 : Int32)]) (rest := []) C0 (kX8_solid h1 _) (cwV 2 hts gL_law_X8_solid rfl rfl rfl eL_X8_solid ⟨(Nat.le_of_ble_eq_true rfl), (Nat.le_of_ble_eq_true rfl)⟩) ⟨q_blind, q_recv (l_X hw) (xN_0 xF_0) (xE_0 xF_0) rfl, q_pre (l_X hw)⟩ rfl rfl hl.1 rfl (lv_room (Nat.le_of_ble_eq_true rfl)) dL_law_639 ⟨(show cells + 0 ≤ 600000 by omega), (show slots + 0 ≤ 7302250 by omega)⟩) (fun H locs hw => ?_)
    refine lv_aload_n hx hb dL_law_642 rfl (lv_at hl 2 rfl) ?_
    refine lv_aload_n hx hb dL_law_643 rfl (lv_at hl 0 rfl) ?_
    refine lv_iload_n hx hb dL_law_644 rfl (lv_at hl 3 rfl) ?_
    refine lv_iconst (v := (1 : Int32)) hx hb dL_law_645 (by decide) ?_
    refine lv_iadd hx hb dL_law_646 ?_
    refine l_sld (i := i) (k := 1) C0 hX hbl hbA hw.1.2.2.2.1 (nI_add i 1) (by omega) hL dL_law_647 ?_
    refine lv_i2l hx hb dL_law_648 rfl ?_
    refine lv_bipush (v := (32 : Int32)) hx hb dL_law_649 (by decide) ?_
    refine lv_lshl (v := (q_shl (xs (i + 1)).toInt64 (32 : Int32))) hx hb dL_law_651 rfl ?_
    refine lv_aload_n hx hb dL_law_652 rfl (lv_at hl 0 rfl) ?_
    refine lv_iload_n hx hb dL_law_653 rfl (lv_at hl 3 rfl) ?_
    refine lv_iconst (v := (2 : Int32)) hx hb dL_law_654 (by decide) ?_
    refine lv_iadd hx hb dL_law_655 ?_
    refine l_sld (i := i) (k := 2) C0 hX hbl hbA hw.1.2.2.2.1 (nI_add i 2) (by omega) hL dL_law_656 ?_
    refine lv_i2l hx hb dL_law_657 rfl ?_
    refine lv_ldc2 (v := (4294967295 : Int64)) hx hb hown (hts (.constantLong RL 18 (4294967295)) (by decide +kernel)) dL_law_658 ?_
    refine lv_land hx hb dL_law_661 ?_
    refine lv_lor hx hb dL_law_662 ?_
    refine lv_aload_n hx hb dL_law_663 rfl (lv_at hl 0 rfl) ?_
    refine lv_iload_n hx hb dL_law_664 rfl (lv_at hl 3 rfl) ?_
    refine lv_iconst (v := (3 : Int32)) hx hb dL_law_665 (by decide) ?_
    refine lv_iadd hx hb dL_law_666 ?_
    refine l_sld (i := i) (k := 3) C0 hX hbl hbA hw.1.2.2.2.1 (nI_add i 3) (by omega) hL dL_law_667 ?_
    refine lv_if_eq (tgt := 675) hx hb dL_law_668 (by decide) (fun z => absurd z c1) (fun _ => ?_)
    refine lv_iconst (v := (1 : Int32)) hx hb dL_law_671 (by decide) ?_
    refine lv_goto (tgt := 676) hx hb dL_law_672 (by decide) ?_
    refine l_callMi hw (va_runV (As := [.long ((q_shl (xs (i + 1)).toInt64 (32 : Int32)) ||| ((xs (i + 2)).toInt64 &&& (4294967295 : Int64))), .int (1 : Int32)]) (rest := [.int r]) C0 (kX9_solid (hRN _ _ _ hR).1 h2 _) (cwV 2 hts gL_law_X9_solid rfl rfl rfl eL_X9_solid ⟨(Nat.le_of_ble_eq_true rfl), (Nat.le_of_ble_eq_true rfl)⟩) ⟨q_blind, q_recv (l_M hw) (mN_0 (hRN _ _ _ hR).1) (mE_0 (hRN _ _ _ hR).1) rfl, q_pre (l_M hw)⟩ rfl rfl hl.1 rfl (lv_room (Nat.le_of_ble_eq_true rfl)) dL_law_676 ⟨(show cells + 0 ≤ 600000 by omega), (show slots + 0 ≤ 7302250 by omega)⟩) (fun H locs hw => ?_)
    refine lv_icmp_eq (tgt := 1847) hx hb dL_law_679 (by decide) (fun _ => ?_) (fun z => absurd rfl z)
    refine W.widen (k := cells + 29) (n := slots + 1060) (by omega) (by omega) ?_
    exact kk _ _ _ _ _ _ _ hR' hw hl
set_option maxHeartbeats 4000000 in
set_option maxRecDepth 100000 in
theorem lc_figure (hop : Op_figure R) (hRN : ∀ σ τ N, R σ τ N → mB N 0 ∧ N % 29 = 0 ∧ N ≤ 87 ∧ mV N τ) (C0 : CallFix p m c code 4 s #[Value.ref b] wsL_law RL) (hX : va_X b L xs s s.heap) (hbl : b < s.heap.size) (hL : L < 2 ^ 31) (hi : i + 6 ≤ L) (hcs : cells + 29 ≤ 600000 ∧ slots + 1060 ≤ 7302250) (hR : R σ τ N) (hw : l_H D cI cJ cS cR adX adM adK adV N (fun q : Nat => s.heap.size ≤ q) s σ τ H locs) (hl : lv_has ls 4 [(0, .ref b), (1, .ref (adX 0)), (2, .ref (adM 0)), (3, .int (nI i))])
    (kk : ∀ (σ' τ' : q_M) (N' : Nat) (adM' : Nat → Nat) (H : Heap) (locs : List Loc) (ls : Array Slot), R σ' τ' N' → l_H D cI cJ cS cR adX adM' adK adV N' (fun q : Nat => s.heap.size ≤ q) s σ' τ' H locs → lv_has ls 4 [(0, .ref b), (1, .ref (adX 0)), (2, .ref (adM' 0)), (3, .int (nI i))] → W p l e room_1 s m #[Value.ref b] below meth c H locs (cells + 29) (slots + 1060) Q (F0 m 1847 ls [])) : W p l e room_1 s m #[Value.ref b] below meth c H locs cells slots Q (F0 m 684 ls []) := by
  obtain ⟨hx, hb, hml, hown, hts⟩ := id C0
  have hbA : ¬ (fun q : Nat => s.heap.size ≤ q) b := Nat.not_le.mpr hbl
  refine lv_aload_n hx hb dL_law_684 rfl (lv_at hl 1 rfl) ?_
  refine lv_aload_n hx hb dL_law_685 rfl (lv_at hl 0 rfl) ?_
  refine lv_iload_n hx hb dL_law_686 rfl (lv_at hl 3 rfl) ?_
  refine lv_iconst (v := (1 : Int32)) hx hb dL_law_687 (by decide) ?_
  refine lv_iadd hx hb dL_law_688 ?_
  refine l_sld (i := i) (k := 1) C0 hX hbl hbA hw.1.2.2.2.1 (nI_add i 1) (by omega) hL dL_law_689 ?_
  obtain ⟨r, σ', τ', h1, h2, hR'⟩ := hop σ τ N (xs (i + 1)) hR
  refine l_callXi hw (va_runV (As := [.int (xs (i + 1))]) (rest := []) C0 (kX8_figure h1 _) (cwV 1 hts gL_law_X8_figure rfl rfl rfl eL_X8_figure ⟨(Nat.le_of_ble_eq_true rfl), (Nat.le_of_ble_eq_true rfl)⟩) ⟨q_blind, q_recv (l_X hw) (xN_0 xF_0) (xE_0 xF_0) rfl, q_pre (l_X hw)⟩ rfl rfl hl.1 rfl (lv_room (Nat.le_of_ble_eq_true rfl)) dL_law_690 ⟨(show cells + 0 ≤ 600000 by omega), (show slots + 0 ≤ 7302250 by omega)⟩) (fun H locs hw => ?_)
  refine lv_aload_n hx hb dL_law_693 rfl (lv_at hl 2 rfl) ?_
  refine lv_aload_n hx hb dL_law_694 rfl (lv_at hl 0 rfl) ?_
  refine lv_iload_n hx hb dL_law_695 rfl (lv_at hl 3 rfl) ?_
  refine lv_iconst (v := (1 : Int32)) hx hb dL_law_696 (by decide) ?_
  refine lv_iadd hx hb dL_law_697 ?_
  refine l_sld (i := i) (k := 1) C0 hX hbl hbA hw.1.2.2.2.1 (nI_add i 1) (by omega) hL dL_law_698 ?_
  refine l_callMi hw (va_runV (As := [.int (xs (i + 1))]) (rest := [.int r]) C0 (kX9_figure (hRN _ _ _ hR).1 h2 _) (cwV 1 hts gL_law_X9_figure rfl rfl rfl eL_X9_figure ⟨(Nat.le_of_ble_eq_true rfl), (Nat.le_of_ble_eq_true rfl)⟩) ⟨q_blind, q_recv (l_M hw) (mN_0 (hRN _ _ _ hR).1) (mE_0 (hRN _ _ _ hR).1) rfl, q_pre (l_M hw)⟩ rfl rfl hl.1 rfl (lv_room (Nat.le_of_ble_eq_true rfl)) dL_law_699 ⟨(show cells + 0 ≤ 600000 by omega), (show slots + 0 ≤ 7302250 by omega)⟩) (fun H locs hw => ?_)
  refine lv_icmp_eq (tgt := 1847) hx hb dL_law_702 (by decide) (fun _ => ?_) (fun z => absurd rfl z)
  refine W.widen (k := cells + 29) (n := slots + 1060) (by omega) (by omega) ?_
  exact kk _ _ _ _ _ _ _ hR' hw hl
set_option maxHeartbeats 4000000 in
set_option maxRecDepth 100000 in
theorem lc_piece (hop : Op_piece R) (hRN : ∀ σ τ N, R σ τ N → mB N 0 ∧ N % 29 = 0 ∧ N ≤ 87 ∧ mV N τ) (C0 : CallFix p m c code 4 s #[Value.ref b] wsL_law RL) (hX : va_X b L xs s s.heap) (hbl : b < s.heap.size) (hL : L < 2 ^ 31) (hi : i + 6 ≤ L) (hcs : cells + 29 ≤ 600000 ∧ slots + 1060 ≤ 7302250) (hR : R σ τ N) (hw : l_H D cI cJ cS cR adX adM adK adV N (fun q : Nat => s.heap.size ≤ q) s σ τ H locs) (hl : lv_has ls 4 [(0, .ref b), (1, .ref (adX 0)), (2, .ref (adM 0)), (3, .int (nI i))])
    (kk : ∀ (σ' τ' : q_M) (N' : Nat) (adM' : Nat → Nat) (H : Heap) (locs : List Loc) (ls : Array Slot), R σ' τ' N' → l_H D cI cJ cS cR adX adM' adK adV N' (fun q : Nat => s.heap.size ≤ q) s σ' τ' H locs → lv_has ls 4 [(0, .ref b), (1, .ref (adX 0)), (2, .ref (adM' 0)), (3, .int (nI i))] → W p l e room_1 s m #[Value.ref b] below meth c H locs (cells + 29) (slots + 1060) Q (F0 m 1847 ls [])) : W p l e room_1 s m #[Value.ref b] below meth c H locs cells slots Q (F0 m 707 ls []) := by
  obtain ⟨hx, hb, hml, hown, hts⟩ := id C0
  have hbA : ¬ (fun q : Nat => s.heap.size ≤ q) b := Nat.not_le.mpr hbl
  refine lv_aload_n hx hb dL_law_707 rfl (lv_at hl 1 rfl) ?_
  refine lv_aload_n hx hb dL_law_708 rfl (lv_at hl 0 rfl) ?_
  refine lv_iload_n hx hb dL_law_709 rfl (lv_at hl 3 rfl) ?_
  refine lv_iconst (v := (1 : Int32)) hx hb dL_law_710 (by decide) ?_
  refine lv_iadd hx hb dL_law_711 ?_
  refine l_sld (i := i) (k := 1) C0 hX hbl hbA hw.1.2.2.2.1 (nI_add i 1) (by omega) hL dL_law_712 ?_
  refine lv_i2l hx hb dL_law_713 rfl ?_
  refine lv_bipush (v := (32 : Int32)) hx hb dL_law_714 (by decide) ?_
  refine lv_lshl (v := (q_shl (xs (i + 1)).toInt64 (32 : Int32))) hx hb dL_law_716 rfl ?_
  refine lv_aload_n hx hb dL_law_717 rfl (lv_at hl 0 rfl) ?_
  refine lv_iload_n hx hb dL_law_718 rfl (lv_at hl 3 rfl) ?_
  refine lv_iconst (v := (2 : Int32)) hx hb dL_law_719 (by decide) ?_
  refine lv_iadd hx hb dL_law_720 ?_
  refine l_sld (i := i) (k := 2) C0 hX hbl hbA hw.1.2.2.2.1 (nI_add i 2) (by omega) hL dL_law_721 ?_
  refine lv_i2l hx hb dL_law_722 rfl ?_
  refine lv_ldc2 (v := (4294967295 : Int64)) hx hb hown (hts (.constantLong RL 18 (4294967295)) (by decide +kernel)) dL_law_723 ?_
  refine lv_land hx hb dL_law_726 ?_
  refine lv_lor hx hb dL_law_727 ?_
  obtain ⟨r, σ', τ', h1, h2, hR'⟩ := hop σ τ N ((q_shl (xs (i + 1)).toInt64 (32 : Int32)) ||| ((xs (i + 2)).toInt64 &&& (4294967295 : Int64))) hR
  refine l_callXi hw (va_runV (As := [.long ((q_shl (xs (i + 1)).toInt64 (32 : Int32)) ||| ((xs (i + 2)).toInt64 &&& (4294967295 : Int64)))]) (rest := []) C0 (kX8_piece h1 _) (cwV 1 hts gL_law_X8_piece rfl rfl rfl eL_X8_piece ⟨(Nat.le_of_ble_eq_true rfl), (Nat.le_of_ble_eq_true rfl)⟩) ⟨q_blind, q_recv (l_X hw) (xN_0 xF_0) (xE_0 xF_0) rfl, q_pre (l_X hw)⟩ rfl rfl hl.1 rfl (lv_room (Nat.le_of_ble_eq_true rfl)) dL_law_728 ⟨(show cells + 0 ≤ 600000 by omega), (show slots + 0 ≤ 7302250 by omega)⟩) (fun H locs hw => ?_)
  refine lv_aload_n hx hb dL_law_731 rfl (lv_at hl 2 rfl) ?_
  refine lv_aload_n hx hb dL_law_732 rfl (lv_at hl 0 rfl) ?_
  refine lv_iload_n hx hb dL_law_733 rfl (lv_at hl 3 rfl) ?_
  refine lv_iconst (v := (1 : Int32)) hx hb dL_law_734 (by decide) ?_
  refine lv_iadd hx hb dL_law_735 ?_
  refine l_sld (i := i) (k := 1) C0 hX hbl hbA hw.1.2.2.2.1 (nI_add i 1) (by omega) hL dL_law_736 ?_
  refine lv_i2l hx hb dL_law_737 rfl ?_
  refine lv_bipush (v := (32 : Int32)) hx hb dL_law_738 (by decide) ?_
  refine lv_lshl (v := (q_shl (xs (i + 1)).toInt64 (32 : Int32))) hx hb dL_law_740 rfl ?_
  refine lv_aload_n hx hb dL_law_741 rfl (lv_at hl 0 rfl) ?_
  refine lv_iload_n hx hb dL_law_742 rfl (lv_at hl 3 rfl) ?_
  refine lv_iconst (v := (2 : Int32)) hx hb dL_law_743 (by decide) ?_
  refine lv_iadd hx hb dL_law_744 ?_
  refine l_sld (i := i) (k := 2) C0 hX hbl hbA hw.1.2.2.2.1 (nI_add i 2) (by omega) hL dL_law_745 ?_
  refine lv_i2l hx hb dL_law_746 rfl ?_
  refine lv_ldc2 (v := (4294967295 : Int64)) hx hb hown (hts (.constantLong RL 18 (4294967295)) (by decide +kernel)) dL_law_747 ?_
  refine lv_land hx hb dL_law_750 ?_
  refine lv_lor hx hb dL_law_751 ?_
  refine l_callMi hw (va_runV (As := [.long ((q_shl (xs (i + 1)).toInt64 (32 : Int32)) ||| ((xs (i + 2)).toInt64 &&& (4294967295 : Int64)))]) (rest := [.int r]) C0 (kX9_piece (hRN _ _ _ hR).1 h2 _) (cwV 1 hts gL_law_X9_piece rfl rfl rfl eL_X9_piece ⟨(Nat.le_of_ble_eq_true rfl), (Nat.le_of_ble_eq_true rfl)⟩) ⟨q_blind, q_recv (l_M hw) (mN_0 (hRN _ _ _ hR).1) (mE_0 (hRN _ _ _ hR).1) rfl, q_pre (l_M hw)⟩ rfl rfl hl.1 rfl (lv_room (Nat.le_of_ble_eq_true rfl)) dL_law_752 ⟨(show cells + 0 ≤ 600000 by omega), (show slots + 0 ≤ 7302250 by omega)⟩) (fun H locs hw => ?_)
  refine lv_icmp_eq (tgt := 1847) hx hb dL_law_755 (by decide) (fun _ => ?_) (fun z => absurd rfl z)
  refine W.widen (k := cells + 29) (n := slots + 1060) (by omega) (by omega) ?_
  exact kk _ _ _ _ _ _ _ hR' hw hl
set_option maxHeartbeats 4000000 in
set_option maxRecDepth 100000 in
theorem lc_alter (hop : Op_alter R) (hRN : ∀ σ τ N, R σ τ N → mB N 0 ∧ N % 29 = 0 ∧ N ≤ 87 ∧ mV N τ) (C0 : CallFix p m c code 4 s #[Value.ref b] wsL_law RL) (hX : va_X b L xs s s.heap) (hbl : b < s.heap.size) (hL : L < 2 ^ 31) (hi : i + 6 ≤ L) (hcs : cells + 29 ≤ 600000 ∧ slots + 1060 ≤ 7302250) (hR : R σ τ N) (hw : l_H D cI cJ cS cR adX adM adK adV N (fun q : Nat => s.heap.size ≤ q) s σ τ H locs) (hl : lv_has ls 4 [(0, .ref b), (1, .ref (adX 0)), (2, .ref (adM 0)), (3, .int (nI i))])
    (kk : ∀ (σ' τ' : q_M) (N' : Nat) (adM' : Nat → Nat) (H : Heap) (locs : List Loc) (ls : Array Slot), R σ' τ' N' → l_H D cI cJ cS cR adX adM' adK adV N' (fun q : Nat => s.heap.size ≤ q) s σ' τ' H locs → lv_has ls 4 [(0, .ref b), (1, .ref (adX 0)), (2, .ref (adM' 0)), (3, .int (nI i))] → W p l e room_1 s m #[Value.ref b] below meth c H locs (cells + 29) (slots + 1060) Q (F0 m 1847 ls [])) : W p l e room_1 s m #[Value.ref b] below meth c H locs cells slots Q (F0 m 760 ls []) := by
  obtain ⟨hx, hb, hml, hown, hts⟩ := id C0
  have hbA : ¬ (fun q : Nat => s.heap.size ≤ q) b := Nat.not_le.mpr hbl
  refine lv_aload_n hx hb dL_law_760 rfl (lv_at hl 1 rfl) ?_
  refine lv_aload_n hx hb dL_law_761 rfl (lv_at hl 0 rfl) ?_
  refine lv_iload_n hx hb dL_law_762 rfl (lv_at hl 3 rfl) ?_
  refine lv_iconst (v := (1 : Int32)) hx hb dL_law_763 (by decide) ?_
  refine lv_iadd hx hb dL_law_764 ?_
  refine l_sld (i := i) (k := 1) C0 hX hbl hbA hw.1.2.2.2.1 (nI_add i 1) (by omega) hL dL_law_765 ?_
  refine lv_aload_n hx hb dL_law_766 rfl (lv_at hl 0 rfl) ?_
  refine lv_iload_n hx hb dL_law_767 rfl (lv_at hl 3 rfl) ?_
  refine lv_iconst (v := (2 : Int32)) hx hb dL_law_768 (by decide) ?_
  refine lv_iadd hx hb dL_law_769 ?_
  refine l_sld (i := i) (k := 2) C0 hX hbl hbA hw.1.2.2.2.1 (nI_add i 2) (by omega) hL dL_law_770 ?_
  refine lv_i2l hx hb dL_law_771 rfl ?_
  refine lv_bipush (v := (32 : Int32)) hx hb dL_law_772 (by decide) ?_
  refine lv_lshl (v := (q_shl (xs (i + 2)).toInt64 (32 : Int32))) hx hb dL_law_774 rfl ?_
  refine lv_aload_n hx hb dL_law_775 rfl (lv_at hl 0 rfl) ?_
  refine lv_iload_n hx hb dL_law_776 rfl (lv_at hl 3 rfl) ?_
  refine lv_iconst (v := (3 : Int32)) hx hb dL_law_777 (by decide) ?_
  refine lv_iadd hx hb dL_law_778 ?_
  refine l_sld (i := i) (k := 3) C0 hX hbl hbA hw.1.2.2.2.1 (nI_add i 3) (by omega) hL dL_law_779 ?_
  refine lv_i2l hx hb dL_law_780 rfl ?_
  refine lv_ldc2 (v := (4294967295 : Int64)) hx hb hown (hts (.constantLong RL 18 (4294967295)) (by decide +kernel)) dL_law_781 ?_
  refine lv_land hx hb dL_law_784 ?_
  refine lv_lor hx hb dL_law_785 ?_
  obtain ⟨r, σ', τ', h1, h2, hR'⟩ := hop σ τ N (xs (i + 1)) ((q_shl (xs (i + 2)).toInt64 (32 : Int32)) ||| ((xs (i + 3)).toInt64 &&& (4294967295 : Int64))) hR
  refine l_callXi hw (va_runV (As := [.int (xs (i + 1)), .long ((q_shl (xs (i + 2)).toInt64 (32 : Int32)) ||| ((xs (i + 3)).toInt64 &&& (4294967295 : Int64)))]) (rest := []) C0 (kX8_alter h1 _) (cwV 2 hts gL_law_X8_alter rfl rfl rfl eL_X8_alter ⟨(Nat.le_of_ble_eq_true rfl), (Nat.le_of_ble_eq_true rfl)⟩) ⟨q_blind, q_recv (l_X hw) (xN_0 xF_0) (xE_0 xF_0) rfl, q_pre (l_X hw)⟩ rfl rfl hl.1 rfl (lv_room (Nat.le_of_ble_eq_true rfl)) dL_law_786 ⟨(show cells + 0 ≤ 600000 by omega), (show slots + 0 ≤ 7302250 by omega)⟩) (fun H locs hw => ?_)
  refine lv_aload_n hx hb dL_law_789 rfl (lv_at hl 2 rfl) ?_
  refine lv_aload_n hx hb dL_law_790 rfl (lv_at hl 0 rfl) ?_
  refine lv_iload_n hx hb dL_law_791 rfl (lv_at hl 3 rfl) ?_
  refine lv_iconst (v := (1 : Int32)) hx hb dL_law_792 (by decide) ?_
  refine lv_iadd hx hb dL_law_793 ?_
  refine l_sld (i := i) (k := 1) C0 hX hbl hbA hw.1.2.2.2.1 (nI_add i 1) (by omega) hL dL_law_794 ?_
  refine lv_aload_n hx hb dL_law_795 rfl (lv_at hl 0 rfl) ?_
  refine lv_iload_n hx hb dL_law_796 rfl (lv_at hl 3 rfl) ?_
  refine lv_iconst (v := (2 : Int32)) hx hb dL_law_797 (by decide) ?_
  refine lv_iadd hx hb dL_law_798 ?_
  refine l_sld (i := i) (k := 2) C0 hX hbl hbA hw.1.2.2.2.1 (nI_add i 2) (by omega) hL dL_law_799 ?_
  refine lv_i2l hx hb dL_law_800 rfl ?_
  refine lv_bipush (v := (32 : Int32)) hx hb dL_law_801 (by decide) ?_
  refine lv_lshl (v := (q_shl (xs (i + 2)).toInt64 (32 : Int32))) hx hb dL_law_803 rfl ?_
  refine lv_aload_n hx hb dL_law_804 rfl (lv_at hl 0 rfl) ?_
  refine lv_iload_n hx hb dL_law_805 rfl (lv_at hl 3 rfl) ?_
  refine lv_iconst (v := (3 : Int32)) hx hb dL_law_806 (by decide) ?_
  refine lv_iadd hx hb dL_law_807 ?_
  refine l_sld (i := i) (k := 3) C0 hX hbl hbA hw.1.2.2.2.1 (nI_add i 3) (by omega) hL dL_law_808 ?_
  refine lv_i2l hx hb dL_law_809 rfl ?_
  refine lv_ldc2 (v := (4294967295 : Int64)) hx hb hown (hts (.constantLong RL 18 (4294967295)) (by decide +kernel)) dL_law_810 ?_
  refine lv_land hx hb dL_law_813 ?_
  refine lv_lor hx hb dL_law_814 ?_
  refine l_callMi hw (va_runV (As := [.int (xs (i + 1)), .long ((q_shl (xs (i + 2)).toInt64 (32 : Int32)) ||| ((xs (i + 3)).toInt64 &&& (4294967295 : Int64)))]) (rest := [.int r]) C0 (kX9_alter (hRN _ _ _ hR).1 h2 _) (cwV 2 hts gL_law_X9_alter rfl rfl rfl eL_X9_alter ⟨(Nat.le_of_ble_eq_true rfl), (Nat.le_of_ble_eq_true rfl)⟩) ⟨q_blind, q_recv (l_M hw) (mN_0 (hRN _ _ _ hR).1) (mE_0 (hRN _ _ _ hR).1) rfl, q_pre (l_M hw)⟩ rfl rfl hl.1 rfl (lv_room (Nat.le_of_ble_eq_true rfl)) dL_law_815 ⟨(show cells + 0 ≤ 600000 by omega), (show slots + 0 ≤ 7302250 by omega)⟩) (fun H locs hw => ?_)
  refine lv_icmp_eq (tgt := 1847) hx hb dL_law_818 (by decide) (fun _ => ?_) (fun z => absurd rfl z)
  refine W.widen (k := cells + 29) (n := slots + 1060) (by omega) (by omega) ?_
  exact kk _ _ _ _ _ _ _ hR' hw hl
set_option maxHeartbeats 4000000 in
set_option maxRecDepth 100000 in
theorem lc_ask (hop : Op_ask R) (hRN : ∀ σ τ N, R σ τ N → mB N 0 ∧ N % 29 = 0 ∧ N ≤ 87 ∧ mV N τ) (C0 : CallFix p m c code 4 s #[Value.ref b] wsL_law RL) (hX : va_X b L xs s s.heap) (hbl : b < s.heap.size) (hL : L < 2 ^ 31) (hi : i + 6 ≤ L) (hcs : cells + 29 ≤ 600000 ∧ slots + 1060 ≤ 7302250) (hR : R σ τ N) (hw : l_H D cI cJ cS cR adX adM adK adV N (fun q : Nat => s.heap.size ≤ q) s σ τ H locs) (hl : lv_has ls 4 [(0, .ref b), (1, .ref (adX 0)), (2, .ref (adM 0)), (3, .int (nI i))])
    (kk : ∀ (σ' τ' : q_M) (N' : Nat) (adM' : Nat → Nat) (H : Heap) (locs : List Loc) (ls : Array Slot), R σ' τ' N' → l_H D cI cJ cS cR adX adM' adK adV N' (fun q : Nat => s.heap.size ≤ q) s σ' τ' H locs → lv_has ls 4 [(0, .ref b), (1, .ref (adX 0)), (2, .ref (adM' 0)), (3, .int (nI i))] → W p l e room_1 s m #[Value.ref b] below meth c H locs (cells + 29) (slots + 1060) Q (F0 m 1847 ls [])) : W p l e room_1 s m #[Value.ref b] below meth c H locs cells slots Q (F0 m 823 ls []) := by
  obtain ⟨hx, hb, hml, hown, hts⟩ := id C0
  have hbA : ¬ (fun q : Nat => s.heap.size ≤ q) b := Nat.not_le.mpr hbl
  refine lv_aload_n hx hb dL_law_823 rfl (lv_at hl 1 rfl) ?_
  refine lv_aload_n hx hb dL_law_824 rfl (lv_at hl 0 rfl) ?_
  refine lv_iload_n hx hb dL_law_825 rfl (lv_at hl 3 rfl) ?_
  refine lv_iconst (v := (1 : Int32)) hx hb dL_law_826 (by decide) ?_
  refine lv_iadd hx hb dL_law_827 ?_
  refine l_sld (i := i) (k := 1) C0 hX hbl hbA hw.1.2.2.2.1 (nI_add i 1) (by omega) hL dL_law_828 ?_
  refine lv_aload_n hx hb dL_law_829 rfl (lv_at hl 0 rfl) ?_
  refine lv_iload_n hx hb dL_law_830 rfl (lv_at hl 3 rfl) ?_
  refine lv_iconst (v := (2 : Int32)) hx hb dL_law_831 (by decide) ?_
  refine lv_iadd hx hb dL_law_832 ?_
  refine l_sld (i := i) (k := 2) C0 hX hbl hbA hw.1.2.2.2.1 (nI_add i 2) (by omega) hL dL_law_833 ?_
  refine lv_aload_n hx hb dL_law_834 rfl (lv_at hl 0 rfl) ?_
  refine lv_iload_n hx hb dL_law_835 rfl (lv_at hl 3 rfl) ?_
  refine lv_iconst (v := (3 : Int32)) hx hb dL_law_836 (by decide) ?_
  refine lv_iadd hx hb dL_law_837 ?_
  refine l_sld (i := i) (k := 3) C0 hX hbl hbA hw.1.2.2.2.1 (nI_add i 3) (by omega) hL dL_law_838 ?_
  obtain ⟨r, σ', τ', h1, h2, hR'⟩ := hop σ τ N (xs (i + 1)) (xs (i + 2)) (xs (i + 3)) hR
  refine l_callXi hw (va_runV (As := [.int (xs (i + 1)), .int (xs (i + 2)), .int (xs (i + 3))]) (rest := []) C0 (kX8_ask h1 _) (cwV 3 hts gL_law_X8_ask rfl rfl rfl eL_X8_ask ⟨(Nat.le_of_ble_eq_true rfl), (Nat.le_of_ble_eq_true rfl)⟩) ⟨q_blind, q_recv (l_X hw) (xN_0 xF_0) (xE_0 xF_0) rfl, q_pre (l_X hw)⟩ rfl rfl hl.1 rfl (lv_room (Nat.le_of_ble_eq_true rfl)) dL_law_839 ⟨(show cells + 0 ≤ 600000 by omega), (show slots + 0 ≤ 7302250 by omega)⟩) (fun H locs hw => ?_)
  refine lv_aload_n hx hb dL_law_842 rfl (lv_at hl 2 rfl) ?_
  refine lv_aload_n hx hb dL_law_843 rfl (lv_at hl 0 rfl) ?_
  refine lv_iload_n hx hb dL_law_844 rfl (lv_at hl 3 rfl) ?_
  refine lv_iconst (v := (1 : Int32)) hx hb dL_law_845 (by decide) ?_
  refine lv_iadd hx hb dL_law_846 ?_
  refine l_sld (i := i) (k := 1) C0 hX hbl hbA hw.1.2.2.2.1 (nI_add i 1) (by omega) hL dL_law_847 ?_
  refine lv_aload_n hx hb dL_law_848 rfl (lv_at hl 0 rfl) ?_
  refine lv_iload_n hx hb dL_law_849 rfl (lv_at hl 3 rfl) ?_
  refine lv_iconst (v := (2 : Int32)) hx hb dL_law_850 (by decide) ?_
  refine lv_iadd hx hb dL_law_851 ?_
  refine l_sld (i := i) (k := 2) C0 hX hbl hbA hw.1.2.2.2.1 (nI_add i 2) (by omega) hL dL_law_852 ?_
  refine lv_aload_n hx hb dL_law_853 rfl (lv_at hl 0 rfl) ?_
  refine lv_iload_n hx hb dL_law_854 rfl (lv_at hl 3 rfl) ?_
  refine lv_iconst (v := (3 : Int32)) hx hb dL_law_855 (by decide) ?_
  refine lv_iadd hx hb dL_law_856 ?_
  refine l_sld (i := i) (k := 3) C0 hX hbl hbA hw.1.2.2.2.1 (nI_add i 3) (by omega) hL dL_law_857 ?_
  refine l_callMi hw (va_runV (As := [.int (xs (i + 1)), .int (xs (i + 2)), .int (xs (i + 3))]) (rest := [.int r]) C0 (kX9_ask (hRN _ _ _ hR).1 h2 _) (cwV 3 hts gL_law_X9_ask rfl rfl rfl eL_X9_ask ⟨(Nat.le_of_ble_eq_true rfl), (Nat.le_of_ble_eq_true rfl)⟩) ⟨q_blind, q_recv (l_M hw) (mN_0 (hRN _ _ _ hR).1) (mE_0 (hRN _ _ _ hR).1) rfl, q_pre (l_M hw)⟩ rfl rfl hl.1 rfl (lv_room (Nat.le_of_ble_eq_true rfl)) dL_law_858 ⟨(show cells + 0 ≤ 600000 by omega), (show slots + 0 ≤ 7302250 by omega)⟩) (fun H locs hw => ?_)
  refine lv_icmp_eq (tgt := 1847) hx hb dL_law_861 (by decide) (fun _ => ?_) (fun z => absurd rfl z)
  refine W.widen (k := cells + 29) (n := slots + 1060) (by omega) (by omega) ?_
  exact kk _ _ _ _ _ _ _ hR' hw hl
set_option maxHeartbeats 4000000 in
set_option maxRecDepth 100000 in
theorem lc_feed (hop : Op_feed R) (hRN : ∀ σ τ N, R σ τ N → mB N 0 ∧ N % 29 = 0 ∧ N ≤ 87 ∧ mV N τ) (C0 : CallFix p m c code 4 s #[Value.ref b] wsL_law RL) (hX : va_X b L xs s s.heap) (hbl : b < s.heap.size) (hL : L < 2 ^ 31) (hi : i + 6 ≤ L) (hcs : cells + 29 ≤ 600000 ∧ slots + 1060 ≤ 7302250) (hR : R σ τ N) (hw : l_H D cI cJ cS cR adX adM adK adV N (fun q : Nat => s.heap.size ≤ q) s σ τ H locs) (hl : lv_has ls 4 [(0, .ref b), (1, .ref (adX 0)), (2, .ref (adM 0)), (3, .int (nI i))])
    (kk : ∀ (σ' τ' : q_M) (N' : Nat) (adM' : Nat → Nat) (H : Heap) (locs : List Loc) (ls : Array Slot), R σ' τ' N' → l_H D cI cJ cS cR adX adM' adK adV N' (fun q : Nat => s.heap.size ≤ q) s σ' τ' H locs → lv_has ls 4 [(0, .ref b), (1, .ref (adX 0)), (2, .ref (adM' 0)), (3, .int (nI i))] → W p l e room_1 s m #[Value.ref b] below meth c H locs (cells + 29) (slots + 1060) Q (F0 m 1847 ls [])) : W p l e room_1 s m #[Value.ref b] below meth c H locs cells slots Q (F0 m 866 ls []) := by
  obtain ⟨hx, hb, hml, hown, hts⟩ := id C0
  have hbA : ¬ (fun q : Nat => s.heap.size ≤ q) b := Nat.not_le.mpr hbl
  refine lv_aload_n hx hb dL_law_866 rfl (lv_at hl 1 rfl) ?_
  refine lv_aload_n hx hb dL_law_867 rfl (lv_at hl 0 rfl) ?_
  refine lv_iload_n hx hb dL_law_868 rfl (lv_at hl 3 rfl) ?_
  refine lv_iconst (v := (1 : Int32)) hx hb dL_law_869 (by decide) ?_
  refine lv_iadd hx hb dL_law_870 ?_
  refine l_sld (i := i) (k := 1) C0 hX hbl hbA hw.1.2.2.2.1 (nI_add i 1) (by omega) hL dL_law_871 ?_
  refine lv_aload_n hx hb dL_law_872 rfl (lv_at hl 0 rfl) ?_
  refine lv_iload_n hx hb dL_law_873 rfl (lv_at hl 3 rfl) ?_
  refine lv_iconst (v := (2 : Int32)) hx hb dL_law_874 (by decide) ?_
  refine lv_iadd hx hb dL_law_875 ?_
  refine l_sld (i := i) (k := 2) C0 hX hbl hbA hw.1.2.2.2.1 (nI_add i 2) (by omega) hL dL_law_876 ?_
  obtain ⟨r, σ', τ', h1, h2, hR'⟩ := hop σ τ N (xs (i + 1)) (xs (i + 2)) hR
  refine l_callXi hw (va_runV (As := [.int (xs (i + 1)), .int (xs (i + 2))]) (rest := []) C0 (kX8_feed h1 _) (cwV 2 hts gL_law_X8_feed rfl rfl rfl eL_X8_feed ⟨(Nat.le_of_ble_eq_true rfl), (Nat.le_of_ble_eq_true rfl)⟩) ⟨q_blind, q_recv (l_X hw) (xN_0 xF_0) (xE_0 xF_0) rfl, q_pre (l_X hw)⟩ rfl rfl hl.1 rfl (lv_room (Nat.le_of_ble_eq_true rfl)) dL_law_877 ⟨(show cells + 0 ≤ 600000 by omega), (show slots + 0 ≤ 7302250 by omega)⟩) (fun H locs hw => ?_)
  refine lv_aload_n hx hb dL_law_880 rfl (lv_at hl 2 rfl) ?_
  refine lv_aload_n hx hb dL_law_881 rfl (lv_at hl 0 rfl) ?_
  refine lv_iload_n hx hb dL_law_882 rfl (lv_at hl 3 rfl) ?_
  refine lv_iconst (v := (1 : Int32)) hx hb dL_law_883 (by decide) ?_
  refine lv_iadd hx hb dL_law_884 ?_
  refine l_sld (i := i) (k := 1) C0 hX hbl hbA hw.1.2.2.2.1 (nI_add i 1) (by omega) hL dL_law_885 ?_
  refine lv_aload_n hx hb dL_law_886 rfl (lv_at hl 0 rfl) ?_
  refine lv_iload_n hx hb dL_law_887 rfl (lv_at hl 3 rfl) ?_
  refine lv_iconst (v := (2 : Int32)) hx hb dL_law_888 (by decide) ?_
  refine lv_iadd hx hb dL_law_889 ?_
  refine l_sld (i := i) (k := 2) C0 hX hbl hbA hw.1.2.2.2.1 (nI_add i 2) (by omega) hL dL_law_890 ?_
  refine l_callMi hw (va_runV (As := [.int (xs (i + 1)), .int (xs (i + 2))]) (rest := [.int r]) C0 (kX9_feed (hRN _ _ _ hR).1 h2 _) (cwV 2 hts gL_law_X9_feed rfl rfl rfl eL_X9_feed ⟨(Nat.le_of_ble_eq_true rfl), (Nat.le_of_ble_eq_true rfl)⟩) ⟨q_blind, q_recv (l_M hw) (mN_0 (hRN _ _ _ hR).1) (mE_0 (hRN _ _ _ hR).1) rfl, q_pre (l_M hw)⟩ rfl rfl hl.1 rfl (lv_room (Nat.le_of_ble_eq_true rfl)) dL_law_891 ⟨(show cells + 0 ≤ 600000 by omega), (show slots + 0 ≤ 7302250 by omega)⟩) (fun H locs hw => ?_)
  refine lv_icmp_eq (tgt := 1847) hx hb dL_law_894 (by decide) (fun _ => ?_) (fun z => absurd rfl z)
  refine W.widen (k := cells + 29) (n := slots + 1060) (by omega) (by omega) ?_
  exact kk _ _ _ _ _ _ _ hR' hw hl
set_option maxHeartbeats 4000000 in
set_option maxRecDepth 100000 in
theorem lc_wipe (hop : Op_wipe R) (hRN : ∀ σ τ N, R σ τ N → mB N 0 ∧ N % 29 = 0 ∧ N ≤ 87 ∧ mV N τ) (C0 : CallFix p m c code 4 s #[Value.ref b] wsL_law RL) (hX : va_X b L xs s s.heap) (hbl : b < s.heap.size) (hL : L < 2 ^ 31) (hi : i + 6 ≤ L) (hcs : cells + 29 ≤ 600000 ∧ slots + 1060 ≤ 7302250) (hR : R σ τ N) (hw : l_H D cI cJ cS cR adX adM adK adV N (fun q : Nat => s.heap.size ≤ q) s σ τ H locs) (hl : lv_has ls 4 [(0, .ref b), (1, .ref (adX 0)), (2, .ref (adM 0)), (3, .int (nI i))])
    (kk : ∀ (σ' τ' : q_M) (N' : Nat) (adM' : Nat → Nat) (H : Heap) (locs : List Loc) (ls : Array Slot), R σ' τ' N' → l_H D cI cJ cS cR adX adM' adK adV N' (fun q : Nat => s.heap.size ≤ q) s σ' τ' H locs → lv_has ls 4 [(0, .ref b), (1, .ref (adX 0)), (2, .ref (adM' 0)), (3, .int (nI i))] → W p l e room_1 s m #[Value.ref b] below meth c H locs (cells + 29) (slots + 1060) Q (F0 m 1847 ls [])) : W p l e room_1 s m #[Value.ref b] below meth c H locs cells slots Q (F0 m 899 ls []) := by
  obtain ⟨hx, hb, hml, hown, hts⟩ := id C0
  have hbA : ¬ (fun q : Nat => s.heap.size ≤ q) b := Nat.not_le.mpr hbl
  refine lv_aload_n hx hb dL_law_899 rfl (lv_at hl 1 rfl) ?_
  obtain ⟨r, σ', τ', h1, h2, hR'⟩ := hop σ τ N  hR
  refine l_callXi hw (va_runV (As := []) (rest := []) C0 (kX8_wipe h1 _) (cwV 0 hts gL_law_X8_wipe rfl rfl rfl eL_X8_wipe ⟨(Nat.le_of_ble_eq_true rfl), (Nat.le_of_ble_eq_true rfl)⟩) ⟨q_blind, q_recv (l_X hw) (xN_0 xF_0) (xE_0 xF_0) rfl, q_pre (l_X hw)⟩ rfl rfl hl.1 rfl (lv_room (Nat.le_of_ble_eq_true rfl)) dL_law_900 ⟨(show cells + 0 ≤ 600000 by omega), (show slots + 0 ≤ 7302250 by omega)⟩) (fun H locs hw => ?_)
  refine lv_aload_n hx hb dL_law_903 rfl (lv_at hl 2 rfl) ?_
  refine l_callMi hw (va_runV (As := []) (rest := [.int r]) C0 (kX9_wipe (hRN _ _ _ hR).1 h2 _) (cwV 0 hts gL_law_X9_wipe rfl rfl rfl eL_X9_wipe ⟨(Nat.le_of_ble_eq_true rfl), (Nat.le_of_ble_eq_true rfl)⟩) ⟨q_blind, q_recv (l_M hw) (mN_0 (hRN _ _ _ hR).1) (mE_0 (hRN _ _ _ hR).1) rfl, q_pre (l_M hw)⟩ rfl rfl hl.1 rfl (lv_room (Nat.le_of_ble_eq_true rfl)) dL_law_904 ⟨(show cells + 0 ≤ 600000 by omega), (show slots + 0 ≤ 7302250 by omega)⟩) (fun H locs hw => ?_)
  refine lv_icmp_eq (tgt := 1847) hx hb dL_law_907 (by decide) (fun _ => ?_) (fun z => absurd rfl z)
  refine W.widen (k := cells + 29) (n := slots + 1060) (by omega) (by omega) ?_
  exact kk _ _ _ _ _ _ _ hR' hw hl
set_option maxHeartbeats 4000000 in
set_option maxRecDepth 100000 in
theorem lc_read (hop : Op_read σ1 R) (hS1 : fX9_showOnes 0 m_0 = some σ1) (h19 : σ1.1 0 19 = 0) (h27 : σ1.1 0 27 = 0) (hRN : ∀ σ τ N, R σ τ N → mB N 0 ∧ N % 29 = 0 ∧ N ≤ 87 ∧ mV N τ) (C0 : CallFix p m c code 4 s #[Value.ref b] wsL_law RL) (hX : va_X b L xs s s.heap) (hbl : b < s.heap.size) (hL : L < 2 ^ 31) (hi : i + 6 ≤ L) (hcs : cells + 29 ≤ 600000 ∧ slots + 1060 ≤ 7302250) (hR : R σ τ N) (hw : l_H D cI cJ cS cR adX adM adK adV N (fun q : Nat => s.heap.size ≤ q) s σ τ H locs) (hl : lv_has ls 4 [(0, .ref b), (1, .ref (adX 0)), (2, .ref (adM 0)), (3, .int (nI i))])
    (kk : ∀ (σ' τ' : q_M) (N' : Nat) (adM' : Nat → Nat) (H : Heap) (locs : List Loc) (ls : Array Slot), R σ' τ' N' → l_H D cI cJ cS cR adX adM' adK adV N' (fun q : Nat => s.heap.size ≤ q) s σ' τ' H locs → lv_has ls 4 [(0, .ref b), (1, .ref (adX 0)), (2, .ref (adM' 0)), (3, .int (nI i))] → W p l e room_1 s m #[Value.ref b] below meth c H locs (cells + 29) (slots + 1060) Q (F0 m 1847 ls [])) : W p l e room_1 s m #[Value.ref b] below meth c H locs cells slots Q (F0 m 912 ls []) := by
  obtain ⟨hx, hb, hml, hown, hts⟩ := id C0
  have hbA : ¬ (fun q : Nat => s.heap.size ≤ q) b := Nat.not_le.mpr hbl
  refine lv_aload_n hx hb dL_law_912 rfl (lv_at hl 1 rfl) ?_
  obtain ⟨r, σ', τ', h1, h2⟩ := hop σ τ N hR
  refine l_callXi hw (va_runV (As := []) (rest := []) C0 (kX8_read h1 _) (cwV 0 hts gL_law_X8_read rfl rfl rfl eL_X8_read ⟨(Nat.le_of_ble_eq_true rfl), (Nat.le_of_ble_eq_true rfl)⟩) ⟨q_blind, q_recv (l_X hw) (xN_0 xF_0) (xE_0 xF_0) rfl, q_pre (l_X hw)⟩ rfl rfl hl.1 rfl (lv_room (Nat.le_of_ble_eq_true rfl)) dL_law_913 ⟨(show cells + 0 ≤ 600000 by omega), (show slots + 0 ≤ 7302250 by omega)⟩) (fun H locs hw => ?_)
  refine lv_aload_n hx hb dL_law_916 rfl (lv_at hl 2 rfl) ?_
  rcases h2 with ⟨h3, h4, h5, hR'⟩ | ⟨kb, h3, h4, h6, h7, h5, hR'⟩
  ·
    refine l_callMm (out := (r, τ', N + 29)) hw (va_runV (As := []) (rest := [.int r]) C0 (kX9_readA (hRN _ _ _ hR).1 (hRN _ _ _ hR).2.1 (by have := (hRN _ _ _ hR).2.2.1; omega) (hRN _ _ _ hR).2.2.2 h3 hS1 h19 h27 h4 h5 _) (cwV 0 hts gL_law_X9_read rfl rfl rfl eL_X9_read ⟨(Nat.le_of_ble_eq_true rfl), (Nat.le_of_ble_eq_true rfl)⟩) ⟨m_blind, q_recv (l_M hw) (mN_0 (hRN _ _ _ hR).1) (mE_0 (hRN _ _ _ hR).1) rfl, l_preM hw⟩ rfl rfl hl.1 rfl (lv_room (Nat.le_of_ble_eq_true rfl)) dL_law_917 ⟨hcs.1, hcs.2⟩) (fun adM' H locs hu hw => ?_)
    have hu0 : adM' 0 = adM 0 := hu 0 (by have := (hRN _ _ _ hR).1.2; omega)
    refine lv_icmp_eq (tgt := 1847) hx hb dL_law_920 (by decide) (fun _ => ?_) (fun z => absurd rfl z)
    rw [← hu0] at hl
    exact kk _ _ _ _ _ _ _ hR' hw hl
  ·
    refine l_callMm (out := (r, τ', N)) hw (va_runV (As := []) (rest := [.int r]) C0 (kX9_readB (hRN _ _ _ hR).1 h4 h6 (by have := (hRN _ _ _ hR).2.2.1; have := h4.2; omega) h3 h7 h5 _) (cwV 0 hts gL_law_X9_read rfl rfl rfl eL_X9_read ⟨(Nat.le_of_ble_eq_true rfl), (Nat.le_of_ble_eq_true rfl)⟩) ⟨m_blind, q_recv (l_M hw) (mN_0 (hRN _ _ _ hR).1) (mE_0 (hRN _ _ _ hR).1) rfl, l_preM hw⟩ rfl rfl hl.1 rfl (lv_room (Nat.le_of_ble_eq_true rfl)) dL_law_917 ⟨hcs.1, hcs.2⟩) (fun adM' H locs hu hw => ?_)
    have hu0 : adM' 0 = adM 0 := hu 0 (by have := (hRN _ _ _ hR).1.2; omega)
    refine lv_icmp_eq (tgt := 1847) hx hb dL_law_920 (by decide) (fun _ => ?_) (fun z => absurd rfl z)
    rw [← hu0] at hl
    exact kk _ _ _ _ _ _ _ hR' hw hl
set_option maxHeartbeats 4000000 in
set_option maxRecDepth 100000 in
theorem lc_cubes (hop : Op_cubes R) (hRN : ∀ σ τ N, R σ τ N → mB N 0 ∧ N % 29 = 0 ∧ N ≤ 87 ∧ mV N τ) (C0 : CallFix p m c code 4 s #[Value.ref b] wsL_law RL) (hX : va_X b L xs s s.heap) (hbl : b < s.heap.size) (hL : L < 2 ^ 31) (hi : i + 6 ≤ L) (hcs : cells + 29 ≤ 600000 ∧ slots + 1060 ≤ 7302250) (hR : R σ τ N) (hw : l_H D cI cJ cS cR adX adM adK adV N (fun q : Nat => s.heap.size ≤ q) s σ τ H locs) (hl : lv_has ls 4 [(0, .ref b), (1, .ref (adX 0)), (2, .ref (adM 0)), (3, .int (nI i))])
    (kk : ∀ (σ' τ' : q_M) (N' : Nat) (adM' : Nat → Nat) (H : Heap) (locs : List Loc) (ls : Array Slot), R σ' τ' N' → l_H D cI cJ cS cR adX adM' adK adV N' (fun q : Nat => s.heap.size ≤ q) s σ' τ' H locs → lv_has ls 4 [(0, .ref b), (1, .ref (adX 0)), (2, .ref (adM' 0)), (3, .int (nI i))] → W p l e room_1 s m #[Value.ref b] below meth c H locs (cells + 29) (slots + 1060) Q (F0 m 1847 ls [])) : W p l e room_1 s m #[Value.ref b] below meth c H locs cells slots Q (F0 m 925 ls []) := by
  obtain ⟨hx, hb, hml, hown, hts⟩ := id C0
  have hbA : ¬ (fun q : Nat => s.heap.size ≤ q) b := Nat.not_le.mpr hbl
  refine lv_aload_n hx hb dL_law_925 rfl (lv_at hl 1 rfl) ?_
  refine lv_aload_n hx hb dL_law_926 rfl (lv_at hl 0 rfl) ?_
  refine lv_iload_n hx hb dL_law_927 rfl (lv_at hl 3 rfl) ?_
  refine lv_iconst (v := (1 : Int32)) hx hb dL_law_928 (by decide) ?_
  refine lv_iadd hx hb dL_law_929 ?_
  refine l_sld (i := i) (k := 1) C0 hX hbl hbA hw.1.2.2.2.1 (nI_add i 1) (by omega) hL dL_law_930 ?_
  obtain ⟨r, σ', τ', h1, h2, hR'⟩ := hop σ τ N (xs (i + 1)) hR
  refine l_callXl hw (va_runV (As := [.int (xs (i + 1))]) (rest := []) C0 (kX8_cubes h1 _) (cwV 1 hts gL_law_X8_cubes rfl rfl rfl eL_X8_cubes ⟨(Nat.le_of_ble_eq_true rfl), (Nat.le_of_ble_eq_true rfl)⟩) ⟨q_blind, q_recv (l_X hw) (xN_0 xF_0) (xE_0 xF_0) rfl, q_pre (l_X hw)⟩ rfl rfl hl.1 rfl (lv_room (Nat.le_of_ble_eq_true rfl)) dL_law_931 ⟨(show cells + 0 ≤ 600000 by omega), (show slots + 0 ≤ 7302250 by omega)⟩) (fun H locs hw => ?_)
  refine lv_aload_n hx hb dL_law_934 rfl (lv_at hl 2 rfl) ?_
  refine lv_aload_n hx hb dL_law_935 rfl (lv_at hl 0 rfl) ?_
  refine lv_iload_n hx hb dL_law_936 rfl (lv_at hl 3 rfl) ?_
  refine lv_iconst (v := (1 : Int32)) hx hb dL_law_937 (by decide) ?_
  refine lv_iadd hx hb dL_law_938 ?_
  refine l_sld (i := i) (k := 1) C0 hX hbl hbA hw.1.2.2.2.1 (nI_add i 1) (by omega) hL dL_law_939 ?_
  refine l_callMl hw (va_runV (As := [.int (xs (i + 1))]) (rest := [.long r]) C0 (kX9_cubes (hRN _ _ _ hR).1 h2 _) (cwV 1 hts gL_law_X9_cubes rfl rfl rfl eL_X9_cubes ⟨(Nat.le_of_ble_eq_true rfl), (Nat.le_of_ble_eq_true rfl)⟩) ⟨q_blind, q_recv (l_M hw) (mN_0 (hRN _ _ _ hR).1) (mE_0 (hRN _ _ _ hR).1) rfl, q_pre (l_M hw)⟩ rfl rfl hl.1 rfl (lv_room (Nat.le_of_ble_eq_true rfl)) dL_law_940 ⟨(show cells + 0 ≤ 600000 by omega), (show slots + 0 ≤ 7302250 by omega)⟩) (fun H locs hw => ?_)
  refine q_lcmp_eq (tgt := 1847) C0 dL_law_943 dL_law_944 (by decide) (fun _ => ?_) (fun z => absurd rfl z)
  refine W.widen (k := cells + 29) (n := slots + 1060) (by omega) (by omega) ?_
  exact kk _ _ _ _ _ _ _ hR' hw hl
set_option maxHeartbeats 4000000 in
set_option maxRecDepth 100000 in
theorem lc_setOf (hop : Op_setOf R) (hRN : ∀ σ τ N, R σ τ N → mB N 0 ∧ N % 29 = 0 ∧ N ≤ 87 ∧ mV N τ) (C0 : CallFix p m c code 4 s #[Value.ref b] wsL_law RL) (hX : va_X b L xs s s.heap) (hbl : b < s.heap.size) (hL : L < 2 ^ 31) (hi : i + 6 ≤ L) (hcs : cells + 29 ≤ 600000 ∧ slots + 1060 ≤ 7302250) (hR : R σ τ N) (hw : l_H D cI cJ cS cR adX adM adK adV N (fun q : Nat => s.heap.size ≤ q) s σ τ H locs) (hl : lv_has ls 4 [(0, .ref b), (1, .ref (adX 0)), (2, .ref (adM 0)), (3, .int (nI i))])
    (kk : ∀ (σ' τ' : q_M) (N' : Nat) (adM' : Nat → Nat) (H : Heap) (locs : List Loc) (ls : Array Slot), R σ' τ' N' → l_H D cI cJ cS cR adX adM' adK adV N' (fun q : Nat => s.heap.size ≤ q) s σ' τ' H locs → lv_has ls 4 [(0, .ref b), (1, .ref (adX 0)), (2, .ref (adM' 0)), (3, .int (nI i))] → W p l e room_1 s m #[Value.ref b] below meth c H locs (cells + 29) (slots + 1060) Q (F0 m 1847 ls [])) : W p l e room_1 s m #[Value.ref b] below meth c H locs cells slots Q (F0 m 949 ls []) := by
  obtain ⟨hx, hb, hml, hown, hts⟩ := id C0
  have hbA : ¬ (fun q : Nat => s.heap.size ≤ q) b := Nat.not_le.mpr hbl
  refine lv_aload_n hx hb dL_law_949 rfl (lv_at hl 1 rfl) ?_
  refine lv_aload_n hx hb dL_law_950 rfl (lv_at hl 0 rfl) ?_
  refine lv_iload_n hx hb dL_law_951 rfl (lv_at hl 3 rfl) ?_
  refine lv_iconst (v := (1 : Int32)) hx hb dL_law_952 (by decide) ?_
  refine lv_iadd hx hb dL_law_953 ?_
  refine l_sld (i := i) (k := 1) C0 hX hbl hbA hw.1.2.2.2.1 (nI_add i 1) (by omega) hL dL_law_954 ?_
  obtain ⟨r, σ', τ', h1, h2, hR'⟩ := hop σ τ N (xs (i + 1)) hR
  refine l_callXl hw (va_runV (As := [.int (xs (i + 1))]) (rest := []) C0 (kX8_setOf h1 _) (cwV 1 hts gL_law_X8_setOf rfl rfl rfl eL_X8_setOf ⟨(Nat.le_of_ble_eq_true rfl), (Nat.le_of_ble_eq_true rfl)⟩) ⟨q_blind, q_recv (l_X hw) (xN_0 xF_0) (xE_0 xF_0) rfl, q_pre (l_X hw)⟩ rfl rfl hl.1 rfl (lv_room (Nat.le_of_ble_eq_true rfl)) dL_law_955 ⟨(show cells + 0 ≤ 600000 by omega), (show slots + 0 ≤ 7302250 by omega)⟩) (fun H locs hw => ?_)
  refine lv_aload_n hx hb dL_law_958 rfl (lv_at hl 2 rfl) ?_
  refine lv_aload_n hx hb dL_law_959 rfl (lv_at hl 0 rfl) ?_
  refine lv_iload_n hx hb dL_law_960 rfl (lv_at hl 3 rfl) ?_
  refine lv_iconst (v := (1 : Int32)) hx hb dL_law_961 (by decide) ?_
  refine lv_iadd hx hb dL_law_962 ?_
  refine l_sld (i := i) (k := 1) C0 hX hbl hbA hw.1.2.2.2.1 (nI_add i 1) (by omega) hL dL_law_963 ?_
  refine l_callMl hw (va_runV (As := [.int (xs (i + 1))]) (rest := [.long r]) C0 (kX9_setOf (hRN _ _ _ hR).1 h2 _) (cwV 1 hts gL_law_X9_setOf rfl rfl rfl eL_X9_setOf ⟨(Nat.le_of_ble_eq_true rfl), (Nat.le_of_ble_eq_true rfl)⟩) ⟨q_blind, q_recv (l_M hw) (mN_0 (hRN _ _ _ hR).1) (mE_0 (hRN _ _ _ hR).1) rfl, q_pre (l_M hw)⟩ rfl rfl hl.1 rfl (lv_room (Nat.le_of_ble_eq_true rfl)) dL_law_964 ⟨(show cells + 0 ≤ 600000 by omega), (show slots + 0 ≤ 7302250 by omega)⟩) (fun H locs hw => ?_)
  refine q_lcmp_eq (tgt := 1847) C0 dL_law_967 dL_law_968 (by decide) (fun _ => ?_) (fun z => absurd rfl z)
  refine W.widen (k := cells + 29) (n := slots + 1060) (by omega) (by omega) ?_
  exact kk _ _ _ _ _ _ _ hR' hw hl
set_option maxHeartbeats 4000000 in
set_option maxRecDepth 100000 in
theorem lc_whole (hop : Op_whole R) (hRN : ∀ σ τ N, R σ τ N → mB N 0 ∧ N % 29 = 0 ∧ N ≤ 87 ∧ mV N τ) (C0 : CallFix p m c code 4 s #[Value.ref b] wsL_law RL) (hX : va_X b L xs s s.heap) (hbl : b < s.heap.size) (hL : L < 2 ^ 31) (hi : i + 6 ≤ L) (hcs : cells + 29 ≤ 600000 ∧ slots + 1060 ≤ 7302250) (hR : R σ τ N) (hw : l_H D cI cJ cS cR adX adM adK adV N (fun q : Nat => s.heap.size ≤ q) s σ τ H locs) (hl : lv_has ls 4 [(0, .ref b), (1, .ref (adX 0)), (2, .ref (adM 0)), (3, .int (nI i))])
    (kk : ∀ (σ' τ' : q_M) (N' : Nat) (adM' : Nat → Nat) (H : Heap) (locs : List Loc) (ls : Array Slot), R σ' τ' N' → l_H D cI cJ cS cR adX adM' adK adV N' (fun q : Nat => s.heap.size ≤ q) s σ' τ' H locs → lv_has ls 4 [(0, .ref b), (1, .ref (adX 0)), (2, .ref (adM' 0)), (3, .int (nI i))] → W p l e room_1 s m #[Value.ref b] below meth c H locs (cells + 29) (slots + 1060) Q (F0 m 1847 ls [])) : W p l e room_1 s m #[Value.ref b] below meth c H locs cells slots Q (F0 m 973 ls []) := by
  obtain ⟨hx, hb, hml, hown, hts⟩ := id C0
  have hbA : ¬ (fun q : Nat => s.heap.size ≤ q) b := Nat.not_le.mpr hbl
  refine lv_aload_n hx hb dL_law_973 rfl (lv_at hl 1 rfl) ?_
  refine lv_aload_n hx hb dL_law_974 rfl (lv_at hl 0 rfl) ?_
  refine lv_iload_n hx hb dL_law_975 rfl (lv_at hl 3 rfl) ?_
  refine lv_iconst (v := (1 : Int32)) hx hb dL_law_976 (by decide) ?_
  refine lv_iadd hx hb dL_law_977 ?_
  refine l_sld (i := i) (k := 1) C0 hX hbl hbA hw.1.2.2.2.1 (nI_add i 1) (by omega) hL dL_law_978 ?_
  refine lv_i2l hx hb dL_law_979 rfl ?_
  refine lv_bipush (v := (32 : Int32)) hx hb dL_law_980 (by decide) ?_
  refine lv_lshl (v := (q_shl (xs (i + 1)).toInt64 (32 : Int32))) hx hb dL_law_982 rfl ?_
  refine lv_aload_n hx hb dL_law_983 rfl (lv_at hl 0 rfl) ?_
  refine lv_iload_n hx hb dL_law_984 rfl (lv_at hl 3 rfl) ?_
  refine lv_iconst (v := (2 : Int32)) hx hb dL_law_985 (by decide) ?_
  refine lv_iadd hx hb dL_law_986 ?_
  refine l_sld (i := i) (k := 2) C0 hX hbl hbA hw.1.2.2.2.1 (nI_add i 2) (by omega) hL dL_law_987 ?_
  refine lv_i2l hx hb dL_law_988 rfl ?_
  refine lv_ldc2 (v := (4294967295 : Int64)) hx hb hown (hts (.constantLong RL 18 (4294967295)) (by decide +kernel)) dL_law_989 ?_
  refine lv_land hx hb dL_law_992 ?_
  refine lv_lor hx hb dL_law_993 ?_
  obtain ⟨r, σ', τ', h1, h2, hR'⟩ := hop σ τ N ((q_shl (xs (i + 1)).toInt64 (32 : Int32)) ||| ((xs (i + 2)).toInt64 &&& (4294967295 : Int64))) hR
  refine l_callXi hw (va_runV (As := [.long ((q_shl (xs (i + 1)).toInt64 (32 : Int32)) ||| ((xs (i + 2)).toInt64 &&& (4294967295 : Int64)))]) (rest := []) C0 (kX8_whole h1 _) (cwV 1 hts gL_law_X8_whole rfl rfl rfl eL_X8_whole ⟨(Nat.le_of_ble_eq_true rfl), (Nat.le_of_ble_eq_true rfl)⟩) ⟨q_blind, q_recv (l_X hw) (xN_0 xF_0) (xE_0 xF_0) rfl, q_pre (l_X hw)⟩ rfl rfl hl.1 rfl (lv_room (Nat.le_of_ble_eq_true rfl)) dL_law_994 ⟨(show cells + 0 ≤ 600000 by omega), (show slots + 0 ≤ 7302250 by omega)⟩) (fun H locs hw => ?_)
  refine lv_aload_n hx hb dL_law_997 rfl (lv_at hl 2 rfl) ?_
  refine lv_aload_n hx hb dL_law_998 rfl (lv_at hl 0 rfl) ?_
  refine lv_iload_n hx hb dL_law_999 rfl (lv_at hl 3 rfl) ?_
  refine lv_iconst (v := (1 : Int32)) hx hb dL_law_1000 (by decide) ?_
  refine lv_iadd hx hb dL_law_1001 ?_
  refine l_sld (i := i) (k := 1) C0 hX hbl hbA hw.1.2.2.2.1 (nI_add i 1) (by omega) hL dL_law_1002 ?_
  refine lv_i2l hx hb dL_law_1003 rfl ?_
  refine lv_bipush (v := (32 : Int32)) hx hb dL_law_1004 (by decide) ?_
  refine lv_lshl (v := (q_shl (xs (i + 1)).toInt64 (32 : Int32))) hx hb dL_law_1006 rfl ?_
  refine lv_aload_n hx hb dL_law_1007 rfl (lv_at hl 0 rfl) ?_
  refine lv_iload_n hx hb dL_law_1008 rfl (lv_at hl 3 rfl) ?_
  refine lv_iconst (v := (2 : Int32)) hx hb dL_law_1009 (by decide) ?_
  refine lv_iadd hx hb dL_law_1010 ?_
  refine l_sld (i := i) (k := 2) C0 hX hbl hbA hw.1.2.2.2.1 (nI_add i 2) (by omega) hL dL_law_1011 ?_
  refine lv_i2l hx hb dL_law_1012 rfl ?_
  refine lv_ldc2 (v := (4294967295 : Int64)) hx hb hown (hts (.constantLong RL 18 (4294967295)) (by decide +kernel)) dL_law_1013 ?_
  refine lv_land hx hb dL_law_1016 ?_
  refine lv_lor hx hb dL_law_1017 ?_
  refine l_callMi hw (va_runV (As := [.long ((q_shl (xs (i + 1)).toInt64 (32 : Int32)) ||| ((xs (i + 2)).toInt64 &&& (4294967295 : Int64)))]) (rest := [.int r]) C0 (kX9_whole (hRN _ _ _ hR).1 h2 _) (cwV 1 hts gL_law_X9_whole rfl rfl rfl eL_X9_whole ⟨(Nat.le_of_ble_eq_true rfl), (Nat.le_of_ble_eq_true rfl)⟩) ⟨q_blind, q_recv (l_M hw) (mN_0 (hRN _ _ _ hR).1) (mE_0 (hRN _ _ _ hR).1) rfl, q_pre (l_M hw)⟩ rfl rfl hl.1 rfl (lv_room (Nat.le_of_ble_eq_true rfl)) dL_law_1018 ⟨(show cells + 0 ≤ 600000 by omega), (show slots + 0 ≤ 7302250 by omega)⟩) (fun H locs hw => ?_)
  refine lv_icmp_eq (tgt := 1847) hx hb dL_law_1021 (by decide) (fun _ => ?_) (fun z => absurd rfl z)
  refine W.widen (k := cells + 29) (n := slots + 1060) (by omega) (by omega) ?_
  exact kk _ _ _ _ _ _ _ hR' hw hl
set_option maxHeartbeats 4000000 in
set_option maxRecDepth 100000 in
theorem lc_parts (hop : Op_parts R) (hRN : ∀ σ τ N, R σ τ N → mB N 0 ∧ N % 29 = 0 ∧ N ≤ 87 ∧ mV N τ) (C0 : CallFix p m c code 4 s #[Value.ref b] wsL_law RL) (hX : va_X b L xs s s.heap) (hbl : b < s.heap.size) (hL : L < 2 ^ 31) (hi : i + 6 ≤ L) (hcs : cells + 29 ≤ 600000 ∧ slots + 1060 ≤ 7302250) (hR : R σ τ N) (hw : l_H D cI cJ cS cR adX adM adK adV N (fun q : Nat => s.heap.size ≤ q) s σ τ H locs) (hl : lv_has ls 4 [(0, .ref b), (1, .ref (adX 0)), (2, .ref (adM 0)), (3, .int (nI i))])
    (kk : ∀ (σ' τ' : q_M) (N' : Nat) (adM' : Nat → Nat) (H : Heap) (locs : List Loc) (ls : Array Slot), R σ' τ' N' → l_H D cI cJ cS cR adX adM' adK adV N' (fun q : Nat => s.heap.size ≤ q) s σ' τ' H locs → lv_has ls 4 [(0, .ref b), (1, .ref (adX 0)), (2, .ref (adM' 0)), (3, .int (nI i))] → W p l e room_1 s m #[Value.ref b] below meth c H locs (cells + 29) (slots + 1060) Q (F0 m 1847 ls [])) : W p l e room_1 s m #[Value.ref b] below meth c H locs cells slots Q (F0 m 1026 ls []) := by
  obtain ⟨hx, hb, hml, hown, hts⟩ := id C0
  have hbA : ¬ (fun q : Nat => s.heap.size ≤ q) b := Nat.not_le.mpr hbl
  refine lv_aload_n hx hb dL_law_1026 rfl (lv_at hl 1 rfl) ?_
  obtain ⟨r, σ', τ', h1, h2, hR'⟩ := hop σ τ N  hR
  refine l_callXi hw (va_runV (As := []) (rest := []) C0 (kX8_parts h1 _) (cwV 0 hts gL_law_X8_parts rfl rfl rfl eL_X8_parts ⟨(Nat.le_of_ble_eq_true rfl), (Nat.le_of_ble_eq_true rfl)⟩) ⟨q_blind, q_recv (l_X hw) (xN_0 xF_0) (xE_0 xF_0) rfl, q_pre (l_X hw)⟩ rfl rfl hl.1 rfl (lv_room (Nat.le_of_ble_eq_true rfl)) dL_law_1027 ⟨(show cells + 0 ≤ 600000 by omega), (show slots + 0 ≤ 7302250 by omega)⟩) (fun H locs hw => ?_)
  refine lv_aload_n hx hb dL_law_1030 rfl (lv_at hl 2 rfl) ?_
  refine l_callMi hw (va_runV (As := []) (rest := [.int r]) C0 (kX9_parts (hRN _ _ _ hR).1 h2 _) (cwV 0 hts gL_law_X9_parts rfl rfl rfl eL_X9_parts ⟨(Nat.le_of_ble_eq_true rfl), (Nat.le_of_ble_eq_true rfl)⟩) ⟨q_blind, q_recv (l_M hw) (mN_0 (hRN _ _ _ hR).1) (mE_0 (hRN _ _ _ hR).1) rfl, q_pre (l_M hw)⟩ rfl rfl hl.1 rfl (lv_room (Nat.le_of_ble_eq_true rfl)) dL_law_1031 ⟨(show cells + 0 ≤ 600000 by omega), (show slots + 0 ≤ 7302250 by omega)⟩) (fun H locs hw => ?_)
  refine lv_icmp_eq (tgt := 1847) hx hb dL_law_1034 (by decide) (fun _ => ?_) (fun z => absurd rfl z)
  refine W.widen (k := cells + 29) (n := slots + 1060) (by omega) (by omega) ?_
  exact kk _ _ _ _ _ _ _ hR' hw hl
set_option maxHeartbeats 4000000 in
set_option maxRecDepth 100000 in
theorem lc_free (hop : Op_free R) (hRN : ∀ σ τ N, R σ τ N → mB N 0 ∧ N % 29 = 0 ∧ N ≤ 87 ∧ mV N τ) (C0 : CallFix p m c code 4 s #[Value.ref b] wsL_law RL) (hX : va_X b L xs s s.heap) (hbl : b < s.heap.size) (hL : L < 2 ^ 31) (hi : i + 6 ≤ L) (hcs : cells + 29 ≤ 600000 ∧ slots + 1060 ≤ 7302250) (hR : R σ τ N) (hw : l_H D cI cJ cS cR adX adM adK adV N (fun q : Nat => s.heap.size ≤ q) s σ τ H locs) (hl : lv_has ls 4 [(0, .ref b), (1, .ref (adX 0)), (2, .ref (adM 0)), (3, .int (nI i))])
    (kk : ∀ (σ' τ' : q_M) (N' : Nat) (adM' : Nat → Nat) (H : Heap) (locs : List Loc) (ls : Array Slot), R σ' τ' N' → l_H D cI cJ cS cR adX adM' adK adV N' (fun q : Nat => s.heap.size ≤ q) s σ' τ' H locs → lv_has ls 4 [(0, .ref b), (1, .ref (adX 0)), (2, .ref (adM' 0)), (3, .int (nI i))] → W p l e room_1 s m #[Value.ref b] below meth c H locs (cells + 29) (slots + 1060) Q (F0 m 1847 ls [])) : W p l e room_1 s m #[Value.ref b] below meth c H locs cells slots Q (F0 m 1039 ls []) := by
  obtain ⟨hx, hb, hml, hown, hts⟩ := id C0
  have hbA : ¬ (fun q : Nat => s.heap.size ≤ q) b := Nat.not_le.mpr hbl
  refine lv_aload_n hx hb dL_law_1039 rfl (lv_at hl 1 rfl) ?_
  refine lv_aload_n hx hb dL_law_1040 rfl (lv_at hl 0 rfl) ?_
  refine lv_iload_n hx hb dL_law_1041 rfl (lv_at hl 3 rfl) ?_
  refine lv_iconst (v := (1 : Int32)) hx hb dL_law_1042 (by decide) ?_
  refine lv_iadd hx hb dL_law_1043 ?_
  refine l_sld (i := i) (k := 1) C0 hX hbl hbA hw.1.2.2.2.1 (nI_add i 1) (by omega) hL dL_law_1044 ?_
  obtain ⟨r, σ', τ', h1, h2, hR'⟩ := hop σ τ N (xs (i + 1)) hR
  refine l_callXi hw (va_runV (As := [.int (xs (i + 1))]) (rest := []) C0 (kX8_free h1 _) (cwV 1 hts gL_law_X8_free rfl rfl rfl eL_X8_free ⟨(Nat.le_of_ble_eq_true rfl), (Nat.le_of_ble_eq_true rfl)⟩) ⟨q_blind, q_recv (l_X hw) (xN_0 xF_0) (xE_0 xF_0) rfl, q_pre (l_X hw)⟩ rfl rfl hl.1 rfl (lv_room (Nat.le_of_ble_eq_true rfl)) dL_law_1045 ⟨(show cells + 0 ≤ 600000 by omega), (show slots + 0 ≤ 7302250 by omega)⟩) (fun H locs hw => ?_)
  refine lv_aload_n hx hb dL_law_1048 rfl (lv_at hl 2 rfl) ?_
  refine lv_aload_n hx hb dL_law_1049 rfl (lv_at hl 0 rfl) ?_
  refine lv_iload_n hx hb dL_law_1050 rfl (lv_at hl 3 rfl) ?_
  refine lv_iconst (v := (1 : Int32)) hx hb dL_law_1051 (by decide) ?_
  refine lv_iadd hx hb dL_law_1052 ?_
  refine l_sld (i := i) (k := 1) C0 hX hbl hbA hw.1.2.2.2.1 (nI_add i 1) (by omega) hL dL_law_1053 ?_
  refine l_callMi hw (va_runV (As := [.int (xs (i + 1))]) (rest := [.int r]) C0 (kX9_free (hRN _ _ _ hR).1 h2 _) (cwV 1 hts gL_law_X9_free rfl rfl rfl eL_X9_free ⟨(Nat.le_of_ble_eq_true rfl), (Nat.le_of_ble_eq_true rfl)⟩) ⟨q_blind, q_recv (l_M hw) (mN_0 (hRN _ _ _ hR).1) (mE_0 (hRN _ _ _ hR).1) rfl, q_pre (l_M hw)⟩ rfl rfl hl.1 rfl (lv_room (Nat.le_of_ble_eq_true rfl)) dL_law_1054 ⟨(show cells + 0 ≤ 600000 by omega), (show slots + 0 ≤ 7302250 by omega)⟩) (fun H locs hw => ?_)
  refine lv_icmp_eq (tgt := 1847) hx hb dL_law_1057 (by decide) (fun _ => ?_) (fun z => absurd rfl z)
  refine W.widen (k := cells + 29) (n := slots + 1060) (by omega) (by omega) ?_
  exact kk _ _ _ _ _ _ _ hR' hw hl
set_option maxHeartbeats 4000000 in
set_option maxRecDepth 100000 in
theorem lc_comes (hop : Op_comes R) (hRN : ∀ σ τ N, R σ τ N → mB N 0 ∧ N % 29 = 0 ∧ N ≤ 87 ∧ mV N τ) (C0 : CallFix p m c code 4 s #[Value.ref b] wsL_law RL) (hX : va_X b L xs s s.heap) (hbl : b < s.heap.size) (hL : L < 2 ^ 31) (hi : i + 6 ≤ L) (hcs : cells + 29 ≤ 600000 ∧ slots + 1060 ≤ 7302250) (hR : R σ τ N) (hw : l_H D cI cJ cS cR adX adM adK adV N (fun q : Nat => s.heap.size ≤ q) s σ τ H locs) (hl : lv_has ls 4 [(0, .ref b), (1, .ref (adX 0)), (2, .ref (adM 0)), (3, .int (nI i))])
    (kk : ∀ (σ' τ' : q_M) (N' : Nat) (adM' : Nat → Nat) (H : Heap) (locs : List Loc) (ls : Array Slot), R σ' τ' N' → l_H D cI cJ cS cR adX adM' adK adV N' (fun q : Nat => s.heap.size ≤ q) s σ' τ' H locs → lv_has ls 4 [(0, .ref b), (1, .ref (adX 0)), (2, .ref (adM' 0)), (3, .int (nI i))] → W p l e room_1 s m #[Value.ref b] below meth c H locs (cells + 29) (slots + 1060) Q (F0 m 1847 ls [])) : W p l e room_1 s m #[Value.ref b] below meth c H locs cells slots Q (F0 m 1062 ls []) := by
  obtain ⟨hx, hb, hml, hown, hts⟩ := id C0
  have hbA : ¬ (fun q : Nat => s.heap.size ≤ q) b := Nat.not_le.mpr hbl
  refine lv_aload_n hx hb dL_law_1062 rfl (lv_at hl 1 rfl) ?_
  refine lv_aload_n hx hb dL_law_1063 rfl (lv_at hl 0 rfl) ?_
  refine lv_iload_n hx hb dL_law_1064 rfl (lv_at hl 3 rfl) ?_
  refine lv_iconst (v := (1 : Int32)) hx hb dL_law_1065 (by decide) ?_
  refine lv_iadd hx hb dL_law_1066 ?_
  refine l_sld (i := i) (k := 1) C0 hX hbl hbA hw.1.2.2.2.1 (nI_add i 1) (by omega) hL dL_law_1067 ?_
  refine lv_aload_n hx hb dL_law_1068 rfl (lv_at hl 0 rfl) ?_
  refine lv_iload_n hx hb dL_law_1069 rfl (lv_at hl 3 rfl) ?_
  refine lv_iconst (v := (2 : Int32)) hx hb dL_law_1070 (by decide) ?_
  refine lv_iadd hx hb dL_law_1071 ?_
  refine l_sld (i := i) (k := 2) C0 hX hbl hbA hw.1.2.2.2.1 (nI_add i 2) (by omega) hL dL_law_1072 ?_
  refine lv_i2l hx hb dL_law_1073 rfl ?_
  refine lv_bipush (v := (32 : Int32)) hx hb dL_law_1074 (by decide) ?_
  refine lv_lshl (v := (q_shl (xs (i + 2)).toInt64 (32 : Int32))) hx hb dL_law_1076 rfl ?_
  refine lv_aload_n hx hb dL_law_1077 rfl (lv_at hl 0 rfl) ?_
  refine lv_iload_n hx hb dL_law_1078 rfl (lv_at hl 3 rfl) ?_
  refine lv_iconst (v := (3 : Int32)) hx hb dL_law_1079 (by decide) ?_
  refine lv_iadd hx hb dL_law_1080 ?_
  refine l_sld (i := i) (k := 3) C0 hX hbl hbA hw.1.2.2.2.1 (nI_add i 3) (by omega) hL dL_law_1081 ?_
  refine lv_i2l hx hb dL_law_1082 rfl ?_
  refine lv_ldc2 (v := (4294967295 : Int64)) hx hb hown (hts (.constantLong RL 18 (4294967295)) (by decide +kernel)) dL_law_1083 ?_
  refine lv_land hx hb dL_law_1086 ?_
  refine lv_lor hx hb dL_law_1087 ?_
  obtain ⟨r, σ', τ', h1, h2, hR'⟩ := hop σ τ N (xs (i + 1)) ((q_shl (xs (i + 2)).toInt64 (32 : Int32)) ||| ((xs (i + 3)).toInt64 &&& (4294967295 : Int64))) hR
  refine l_callXi hw (va_runV (As := [.int (xs (i + 1)), .long ((q_shl (xs (i + 2)).toInt64 (32 : Int32)) ||| ((xs (i + 3)).toInt64 &&& (4294967295 : Int64)))]) (rest := []) C0 (kX8_comes h1 _) (cwV 2 hts gL_law_X8_comes rfl rfl rfl eL_X8_comes ⟨(Nat.le_of_ble_eq_true rfl), (Nat.le_of_ble_eq_true rfl)⟩) ⟨q_blind, q_recv (l_X hw) (xN_0 xF_0) (xE_0 xF_0) rfl, q_pre (l_X hw)⟩ rfl rfl hl.1 rfl (lv_room (Nat.le_of_ble_eq_true rfl)) dL_law_1088 ⟨(show cells + 0 ≤ 600000 by omega), (show slots + 0 ≤ 7302250 by omega)⟩) (fun H locs hw => ?_)
  refine lv_aload_n hx hb dL_law_1091 rfl (lv_at hl 2 rfl) ?_
  refine lv_aload_n hx hb dL_law_1092 rfl (lv_at hl 0 rfl) ?_
  refine lv_iload_n hx hb dL_law_1093 rfl (lv_at hl 3 rfl) ?_
  refine lv_iconst (v := (1 : Int32)) hx hb dL_law_1094 (by decide) ?_
  refine lv_iadd hx hb dL_law_1095 ?_
  refine l_sld (i := i) (k := 1) C0 hX hbl hbA hw.1.2.2.2.1 (nI_add i 1) (by omega) hL dL_law_1096 ?_
  refine lv_aload_n hx hb dL_law_1097 rfl (lv_at hl 0 rfl) ?_
  refine lv_iload_n hx hb dL_law_1098 rfl (lv_at hl 3 rfl) ?_
  refine lv_iconst (v := (2 : Int32)) hx hb dL_law_1099 (by decide) ?_
  refine lv_iadd hx hb dL_law_1100 ?_
  refine l_sld (i := i) (k := 2) C0 hX hbl hbA hw.1.2.2.2.1 (nI_add i 2) (by omega) hL dL_law_1101 ?_
  refine lv_i2l hx hb dL_law_1102 rfl ?_
  refine lv_bipush (v := (32 : Int32)) hx hb dL_law_1103 (by decide) ?_
  refine lv_lshl (v := (q_shl (xs (i + 2)).toInt64 (32 : Int32))) hx hb dL_law_1105 rfl ?_
  refine lv_aload_n hx hb dL_law_1106 rfl (lv_at hl 0 rfl) ?_
  refine lv_iload_n hx hb dL_law_1107 rfl (lv_at hl 3 rfl) ?_
  refine lv_iconst (v := (3 : Int32)) hx hb dL_law_1108 (by decide) ?_
  refine lv_iadd hx hb dL_law_1109 ?_
  refine l_sld (i := i) (k := 3) C0 hX hbl hbA hw.1.2.2.2.1 (nI_add i 3) (by omega) hL dL_law_1110 ?_
  refine lv_i2l hx hb dL_law_1111 rfl ?_
  refine lv_ldc2 (v := (4294967295 : Int64)) hx hb hown (hts (.constantLong RL 18 (4294967295)) (by decide +kernel)) dL_law_1112 ?_
  refine lv_land hx hb dL_law_1115 ?_
  refine lv_lor hx hb dL_law_1116 ?_
  refine l_callMi hw (va_runV (As := [.int (xs (i + 1)), .long ((q_shl (xs (i + 2)).toInt64 (32 : Int32)) ||| ((xs (i + 3)).toInt64 &&& (4294967295 : Int64)))]) (rest := [.int r]) C0 (kX9_comes (hRN _ _ _ hR).1 h2 _) (cwV 2 hts gL_law_X9_comes rfl rfl rfl eL_X9_comes ⟨(Nat.le_of_ble_eq_true rfl), (Nat.le_of_ble_eq_true rfl)⟩) ⟨q_blind, q_recv (l_M hw) (mN_0 (hRN _ _ _ hR).1) (mE_0 (hRN _ _ _ hR).1) rfl, q_pre (l_M hw)⟩ rfl rfl hl.1 rfl (lv_room (Nat.le_of_ble_eq_true rfl)) dL_law_1117 ⟨(show cells + 0 ≤ 600000 by omega), (show slots + 0 ≤ 7302250 by omega)⟩) (fun H locs hw => ?_)
  refine lv_icmp_eq (tgt := 1847) hx hb dL_law_1120 (by decide) (fun _ => ?_) (fun z => absurd rfl z)
  refine W.widen (k := cells + 29) (n := slots + 1060) (by omega) (by omega) ?_
  exact kk _ _ _ _ _ _ _ hR' hw hl
set_option maxHeartbeats 4000000 in
set_option maxRecDepth 100000 in
theorem lc_wrong (hop : Op_wrong R) (hRN : ∀ σ τ N, R σ τ N → mB N 0 ∧ N % 29 = 0 ∧ N ≤ 87 ∧ mV N τ) (C0 : CallFix p m c code 4 s #[Value.ref b] wsL_law RL) (hX : va_X b L xs s s.heap) (hbl : b < s.heap.size) (hL : L < 2 ^ 31) (hi : i + 6 ≤ L) (hcs : cells + 29 ≤ 600000 ∧ slots + 1060 ≤ 7302250) (hR : R σ τ N) (hw : l_H D cI cJ cS cR adX adM adK adV N (fun q : Nat => s.heap.size ≤ q) s σ τ H locs) (hl : lv_has ls 4 [(0, .ref b), (1, .ref (adX 0)), (2, .ref (adM 0)), (3, .int (nI i))])
    (kk : ∀ (σ' τ' : q_M) (N' : Nat) (adM' : Nat → Nat) (H : Heap) (locs : List Loc) (ls : Array Slot), R σ' τ' N' → l_H D cI cJ cS cR adX adM' adK adV N' (fun q : Nat => s.heap.size ≤ q) s σ' τ' H locs → lv_has ls 4 [(0, .ref b), (1, .ref (adX 0)), (2, .ref (adM' 0)), (3, .int (nI i))] → W p l e room_1 s m #[Value.ref b] below meth c H locs (cells + 29) (slots + 1060) Q (F0 m 1847 ls [])) : W p l e room_1 s m #[Value.ref b] below meth c H locs cells slots Q (F0 m 1125 ls []) := by
  obtain ⟨hx, hb, hml, hown, hts⟩ := id C0
  have hbA : ¬ (fun q : Nat => s.heap.size ≤ q) b := Nat.not_le.mpr hbl
  refine lv_aload_n hx hb dL_law_1125 rfl (lv_at hl 1 rfl) ?_
  refine lv_aload_n hx hb dL_law_1126 rfl (lv_at hl 0 rfl) ?_
  refine lv_iload_n hx hb dL_law_1127 rfl (lv_at hl 3 rfl) ?_
  refine lv_iconst (v := (1 : Int32)) hx hb dL_law_1128 (by decide) ?_
  refine lv_iadd hx hb dL_law_1129 ?_
  refine l_sld (i := i) (k := 1) C0 hX hbl hbA hw.1.2.2.2.1 (nI_add i 1) (by omega) hL dL_law_1130 ?_
  refine lv_if_eq (tgt := 1138) hx hb dL_law_1131 (by decide) (fun c1 => ?_) (fun c1 => ?_)
  ·
    refine lv_iconst (v := (0 : Int32)) hx hb dL_law_1138 (by decide) ?_
    obtain ⟨r, σ', τ', h1, h2, hR'⟩ := hop σ τ N (0 : Int32) (by decide) hR
    refine l_callXi hw (va_runV (As := [.int (0 : Int32)]) (rest := []) C0 (kX8_wrong h1 _) (cwV 1 hts gL_law_X8_wrong rfl rfl rfl eL_X8_wrong ⟨(Nat.le_of_ble_eq_true rfl), (Nat.le_of_ble_eq_true rfl)⟩) ⟨q_blind, q_recv (l_X hw) (xN_0 xF_0) (xE_0 xF_0) rfl, q_pre (l_X hw)⟩ rfl rfl hl.1 rfl (lv_room (Nat.le_of_ble_eq_true rfl)) dL_law_1139 ⟨(show cells + 0 ≤ 600000 by omega), (show slots + 0 ≤ 7302250 by omega)⟩) (fun H locs hw => ?_)
    refine lv_aload_n hx hb dL_law_1142 rfl (lv_at hl 2 rfl) ?_
    refine lv_aload_n hx hb dL_law_1143 rfl (lv_at hl 0 rfl) ?_
    refine lv_iload_n hx hb dL_law_1144 rfl (lv_at hl 3 rfl) ?_
    refine lv_iconst (v := (1 : Int32)) hx hb dL_law_1145 (by decide) ?_
    refine lv_iadd hx hb dL_law_1146 ?_
    refine l_sld (i := i) (k := 1) C0 hX hbl hbA hw.1.2.2.2.1 (nI_add i 1) (by omega) hL dL_law_1147 ?_
    refine lv_if_eq (tgt := 1155) hx hb dL_law_1148 (by decide) (fun _ => ?_) (fun z => absurd c1 z)
    refine lv_iconst (v := (0 : Int32)) hx hb dL_law_1155 (by decide) ?_
    refine l_callMi hw (va_runV (As := [.int (0 : Int32)]) (rest := [.int r]) C0 (kX9_wrong (hRN _ _ _ hR).1 h2 _) (cwV 1 hts gL_law_X9_wrong rfl rfl rfl eL_X9_wrong ⟨(Nat.le_of_ble_eq_true rfl), (Nat.le_of_ble_eq_true rfl)⟩) ⟨q_blind, q_recv (l_M hw) (mN_0 (hRN _ _ _ hR).1) (mE_0 (hRN _ _ _ hR).1) rfl, q_pre (l_M hw)⟩ rfl rfl hl.1 rfl (lv_room (Nat.le_of_ble_eq_true rfl)) dL_law_1156 ⟨(show cells + 0 ≤ 600000 by omega), (show slots + 0 ≤ 7302250 by omega)⟩) (fun H locs hw => ?_)
    refine lv_icmp_eq (tgt := 1847) hx hb dL_law_1159 (by decide) (fun _ => ?_) (fun z => absurd rfl z)
    refine W.widen (k := cells + 29) (n := slots + 1060) (by omega) (by omega) ?_
    exact kk _ _ _ _ _ _ _ hR' hw hl
  ·
    refine lv_iconst (v := (1 : Int32)) hx hb dL_law_1134 (by decide) ?_
    refine lv_goto (tgt := 1139) hx hb dL_law_1135 (by decide) ?_
    obtain ⟨r, σ', τ', h1, h2, hR'⟩ := hop σ τ N (1 : Int32) (by decide) hR
    refine l_callXi hw (va_runV (As := [.int (1 : Int32)]) (rest := []) C0 (kX8_wrong h1 _) (cwV 1 hts gL_law_X8_wrong rfl rfl rfl eL_X8_wrong ⟨(Nat.le_of_ble_eq_true rfl), (Nat.le_of_ble_eq_true rfl)⟩) ⟨q_blind, q_recv (l_X hw) (xN_0 xF_0) (xE_0 xF_0) rfl, q_pre (l_X hw)⟩ rfl rfl hl.1 rfl (lv_room (Nat.le_of_ble_eq_true rfl)) dL_law_1139 ⟨(show cells + 0 ≤ 600000 by omega), (show slots + 0 ≤ 7302250 by omega)⟩) (fun H locs hw => ?_)
    refine lv_aload_n hx hb dL_law_1142 rfl (lv_at hl 2 rfl) ?_
    refine lv_aload_n hx hb dL_law_1143 rfl (lv_at hl 0 rfl) ?_
    refine lv_iload_n hx hb dL_law_1144 rfl (lv_at hl 3 rfl) ?_
    refine lv_iconst (v := (1 : Int32)) hx hb dL_law_1145 (by decide) ?_
    refine lv_iadd hx hb dL_law_1146 ?_
    refine l_sld (i := i) (k := 1) C0 hX hbl hbA hw.1.2.2.2.1 (nI_add i 1) (by omega) hL dL_law_1147 ?_
    refine lv_if_eq (tgt := 1155) hx hb dL_law_1148 (by decide) (fun z => absurd z c1) (fun _ => ?_)
    refine lv_iconst (v := (1 : Int32)) hx hb dL_law_1151 (by decide) ?_
    refine lv_goto (tgt := 1156) hx hb dL_law_1152 (by decide) ?_
    refine l_callMi hw (va_runV (As := [.int (1 : Int32)]) (rest := [.int r]) C0 (kX9_wrong (hRN _ _ _ hR).1 h2 _) (cwV 1 hts gL_law_X9_wrong rfl rfl rfl eL_X9_wrong ⟨(Nat.le_of_ble_eq_true rfl), (Nat.le_of_ble_eq_true rfl)⟩) ⟨q_blind, q_recv (l_M hw) (mN_0 (hRN _ _ _ hR).1) (mE_0 (hRN _ _ _ hR).1) rfl, q_pre (l_M hw)⟩ rfl rfl hl.1 rfl (lv_room (Nat.le_of_ble_eq_true rfl)) dL_law_1156 ⟨(show cells + 0 ≤ 600000 by omega), (show slots + 0 ≤ 7302250 by omega)⟩) (fun H locs hw => ?_)
    refine lv_icmp_eq (tgt := 1847) hx hb dL_law_1159 (by decide) (fun _ => ?_) (fun z => absurd rfl z)
    refine W.widen (k := cells + 29) (n := slots + 1060) (by omega) (by omega) ?_
    exact kk _ _ _ _ _ _ _ hR' hw hl
set_option maxHeartbeats 4000000 in
set_option maxRecDepth 100000 in
theorem lc_loose (hop : Op_loose R) (hRN : ∀ σ τ N, R σ τ N → mB N 0 ∧ N % 29 = 0 ∧ N ≤ 87 ∧ mV N τ) (C0 : CallFix p m c code 4 s #[Value.ref b] wsL_law RL) (hX : va_X b L xs s s.heap) (hbl : b < s.heap.size) (hL : L < 2 ^ 31) (hi : i + 6 ≤ L) (hcs : cells + 29 ≤ 600000 ∧ slots + 1060 ≤ 7302250) (hR : R σ τ N) (hw : l_H D cI cJ cS cR adX adM adK adV N (fun q : Nat => s.heap.size ≤ q) s σ τ H locs) (hl : lv_has ls 4 [(0, .ref b), (1, .ref (adX 0)), (2, .ref (adM 0)), (3, .int (nI i))])
    (kk : ∀ (σ' τ' : q_M) (N' : Nat) (adM' : Nat → Nat) (H : Heap) (locs : List Loc) (ls : Array Slot), R σ' τ' N' → l_H D cI cJ cS cR adX adM' adK adV N' (fun q : Nat => s.heap.size ≤ q) s σ' τ' H locs → lv_has ls 4 [(0, .ref b), (1, .ref (adX 0)), (2, .ref (adM' 0)), (3, .int (nI i))] → W p l e room_1 s m #[Value.ref b] below meth c H locs (cells + 29) (slots + 1060) Q (F0 m 1847 ls [])) : W p l e room_1 s m #[Value.ref b] below meth c H locs cells slots Q (F0 m 1164 ls []) := by
  obtain ⟨hx, hb, hml, hown, hts⟩ := id C0
  have hbA : ¬ (fun q : Nat => s.heap.size ≤ q) b := Nat.not_le.mpr hbl
  refine lv_aload_n hx hb dL_law_1164 rfl (lv_at hl 1 rfl) ?_
  refine lv_aload_n hx hb dL_law_1165 rfl (lv_at hl 0 rfl) ?_
  refine lv_iload_n hx hb dL_law_1166 rfl (lv_at hl 3 rfl) ?_
  refine lv_iconst (v := (1 : Int32)) hx hb dL_law_1167 (by decide) ?_
  refine lv_iadd hx hb dL_law_1168 ?_
  refine l_sld (i := i) (k := 1) C0 hX hbl hbA hw.1.2.2.2.1 (nI_add i 1) (by omega) hL dL_law_1169 ?_
  obtain ⟨r, σ', τ', h1, h2, hR'⟩ := hop σ τ N (xs (i + 1)) hR
  refine l_callXi hw (va_runV (As := [.int (xs (i + 1))]) (rest := []) C0 (kX8_loose h1 _) (cwV 1 hts gL_law_X8_loose rfl rfl rfl eL_X8_loose ⟨(Nat.le_of_ble_eq_true rfl), (Nat.le_of_ble_eq_true rfl)⟩) ⟨q_blind, q_recv (l_X hw) (xN_0 xF_0) (xE_0 xF_0) rfl, q_pre (l_X hw)⟩ rfl rfl hl.1 rfl (lv_room (Nat.le_of_ble_eq_true rfl)) dL_law_1170 ⟨(show cells + 0 ≤ 600000 by omega), (show slots + 0 ≤ 7302250 by omega)⟩) (fun H locs hw => ?_)
  refine lv_aload_n hx hb dL_law_1173 rfl (lv_at hl 2 rfl) ?_
  refine lv_aload_n hx hb dL_law_1174 rfl (lv_at hl 0 rfl) ?_
  refine lv_iload_n hx hb dL_law_1175 rfl (lv_at hl 3 rfl) ?_
  refine lv_iconst (v := (1 : Int32)) hx hb dL_law_1176 (by decide) ?_
  refine lv_iadd hx hb dL_law_1177 ?_
  refine l_sld (i := i) (k := 1) C0 hX hbl hbA hw.1.2.2.2.1 (nI_add i 1) (by omega) hL dL_law_1178 ?_
  refine l_callMi hw (va_runV (As := [.int (xs (i + 1))]) (rest := [.int r]) C0 (kX9_loose (hRN _ _ _ hR).1 h2 _) (cwV 1 hts gL_law_X9_loose rfl rfl rfl eL_X9_loose ⟨(Nat.le_of_ble_eq_true rfl), (Nat.le_of_ble_eq_true rfl)⟩) ⟨q_blind, q_recv (l_M hw) (mN_0 (hRN _ _ _ hR).1) (mE_0 (hRN _ _ _ hR).1) rfl, q_pre (l_M hw)⟩ rfl rfl hl.1 rfl (lv_room (Nat.le_of_ble_eq_true rfl)) dL_law_1179 ⟨(show cells + 0 ≤ 600000 by omega), (show slots + 0 ≤ 7302250 by omega)⟩) (fun H locs hw => ?_)
  refine lv_icmp_eq (tgt := 1847) hx hb dL_law_1182 (by decide) (fun _ => ?_) (fun z => absurd rfl z)
  refine W.widen (k := cells + 29) (n := slots + 1060) (by omega) (by omega) ?_
  exact kk _ _ _ _ _ _ _ hR' hw hl
set_option maxHeartbeats 4000000 in
set_option maxRecDepth 100000 in
theorem lc_bars (hop : Op_bars R) (hRN : ∀ σ τ N, R σ τ N → mB N 0 ∧ N % 29 = 0 ∧ N ≤ 87 ∧ mV N τ) (C0 : CallFix p m c code 4 s #[Value.ref b] wsL_law RL) (hX : va_X b L xs s s.heap) (hbl : b < s.heap.size) (hL : L < 2 ^ 31) (hi : i + 6 ≤ L) (hcs : cells + 29 ≤ 600000 ∧ slots + 1060 ≤ 7302250) (hR : R σ τ N) (hw : l_H D cI cJ cS cR adX adM adK adV N (fun q : Nat => s.heap.size ≤ q) s σ τ H locs) (hl : lv_has ls 4 [(0, .ref b), (1, .ref (adX 0)), (2, .ref (adM 0)), (3, .int (nI i))])
    (kk : ∀ (σ' τ' : q_M) (N' : Nat) (adM' : Nat → Nat) (H : Heap) (locs : List Loc) (ls : Array Slot), R σ' τ' N' → l_H D cI cJ cS cR adX adM' adK adV N' (fun q : Nat => s.heap.size ≤ q) s σ' τ' H locs → lv_has ls 4 [(0, .ref b), (1, .ref (adX 0)), (2, .ref (adM' 0)), (3, .int (nI i))] → W p l e room_1 s m #[Value.ref b] below meth c H locs (cells + 29) (slots + 1060) Q (F0 m 1847 ls [])) : W p l e room_1 s m #[Value.ref b] below meth c H locs cells slots Q (F0 m 1187 ls []) := by
  obtain ⟨hx, hb, hml, hown, hts⟩ := id C0
  have hbA : ¬ (fun q : Nat => s.heap.size ≤ q) b := Nat.not_le.mpr hbl
  refine lv_aload_n hx hb dL_law_1187 rfl (lv_at hl 1 rfl) ?_
  refine lv_aload_n hx hb dL_law_1188 rfl (lv_at hl 0 rfl) ?_
  refine lv_iload_n hx hb dL_law_1189 rfl (lv_at hl 3 rfl) ?_
  refine lv_iconst (v := (1 : Int32)) hx hb dL_law_1190 (by decide) ?_
  refine lv_iadd hx hb dL_law_1191 ?_
  refine l_sld (i := i) (k := 1) C0 hX hbl hbA hw.1.2.2.2.1 (nI_add i 1) (by omega) hL dL_law_1192 ?_
  refine lv_aload_n hx hb dL_law_1193 rfl (lv_at hl 0 rfl) ?_
  refine lv_iload_n hx hb dL_law_1194 rfl (lv_at hl 3 rfl) ?_
  refine lv_iconst (v := (2 : Int32)) hx hb dL_law_1195 (by decide) ?_
  refine lv_iadd hx hb dL_law_1196 ?_
  refine l_sld (i := i) (k := 2) C0 hX hbl hbA hw.1.2.2.2.1 (nI_add i 2) (by omega) hL dL_law_1197 ?_
  obtain ⟨r, σ', τ', h1, h2, hR'⟩ := hop σ τ N (xs (i + 1)) (xs (i + 2)) hR
  refine l_callXi hw (va_runV (As := [.int (xs (i + 1)), .int (xs (i + 2))]) (rest := []) C0 (kX8_bars h1 _) (cwV 2 hts gL_law_X8_bars rfl rfl rfl eL_X8_bars ⟨(Nat.le_of_ble_eq_true rfl), (Nat.le_of_ble_eq_true rfl)⟩) ⟨q_blind, q_recv (l_X hw) (xN_0 xF_0) (xE_0 xF_0) rfl, q_pre (l_X hw)⟩ rfl rfl hl.1 rfl (lv_room (Nat.le_of_ble_eq_true rfl)) dL_law_1198 ⟨(show cells + 0 ≤ 600000 by omega), (show slots + 0 ≤ 7302250 by omega)⟩) (fun H locs hw => ?_)
  refine lv_aload_n hx hb dL_law_1201 rfl (lv_at hl 2 rfl) ?_
  refine lv_aload_n hx hb dL_law_1202 rfl (lv_at hl 0 rfl) ?_
  refine lv_iload_n hx hb dL_law_1203 rfl (lv_at hl 3 rfl) ?_
  refine lv_iconst (v := (1 : Int32)) hx hb dL_law_1204 (by decide) ?_
  refine lv_iadd hx hb dL_law_1205 ?_
  refine l_sld (i := i) (k := 1) C0 hX hbl hbA hw.1.2.2.2.1 (nI_add i 1) (by omega) hL dL_law_1206 ?_
  refine lv_aload_n hx hb dL_law_1207 rfl (lv_at hl 0 rfl) ?_
  refine lv_iload_n hx hb dL_law_1208 rfl (lv_at hl 3 rfl) ?_
  refine lv_iconst (v := (2 : Int32)) hx hb dL_law_1209 (by decide) ?_
  refine lv_iadd hx hb dL_law_1210 ?_
  refine l_sld (i := i) (k := 2) C0 hX hbl hbA hw.1.2.2.2.1 (nI_add i 2) (by omega) hL dL_law_1211 ?_
  refine l_callMi hw (va_runV (As := [.int (xs (i + 1)), .int (xs (i + 2))]) (rest := [.int r]) C0 (kX9_bars (hRN _ _ _ hR).1 h2 _) (cwV 2 hts gL_law_X9_bars rfl rfl rfl eL_X9_bars ⟨(Nat.le_of_ble_eq_true rfl), (Nat.le_of_ble_eq_true rfl)⟩) ⟨q_blind, q_recv (l_M hw) (mN_0 (hRN _ _ _ hR).1) (mE_0 (hRN _ _ _ hR).1) rfl, q_pre (l_M hw)⟩ rfl rfl hl.1 rfl (lv_room (Nat.le_of_ble_eq_true rfl)) dL_law_1212 ⟨(show cells + 0 ≤ 600000 by omega), (show slots + 0 ≤ 7302250 by omega)⟩) (fun H locs hw => ?_)
  refine lv_icmp_eq (tgt := 1847) hx hb dL_law_1215 (by decide) (fun _ => ?_) (fun z => absurd rfl z)
  refine W.widen (k := cells + 29) (n := slots + 1060) (by omega) (by omega) ?_
  exact kk _ _ _ _ _ _ _ hR' hw hl
set_option maxHeartbeats 4000000 in
set_option maxRecDepth 100000 in
theorem lc_order (hop : Op_order R) (hRN : ∀ σ τ N, R σ τ N → mB N 0 ∧ N % 29 = 0 ∧ N ≤ 87 ∧ mV N τ) (C0 : CallFix p m c code 4 s #[Value.ref b] wsL_law RL) (hX : va_X b L xs s s.heap) (hbl : b < s.heap.size) (hL : L < 2 ^ 31) (hi : i + 6 ≤ L) (hcs : cells + 29 ≤ 600000 ∧ slots + 1060 ≤ 7302250) (hR : R σ τ N) (hw : l_H D cI cJ cS cR adX adM adK adV N (fun q : Nat => s.heap.size ≤ q) s σ τ H locs) (hl : lv_has ls 4 [(0, .ref b), (1, .ref (adX 0)), (2, .ref (adM 0)), (3, .int (nI i))])
    (kk : ∀ (σ' τ' : q_M) (N' : Nat) (adM' : Nat → Nat) (H : Heap) (locs : List Loc) (ls : Array Slot), R σ' τ' N' → l_H D cI cJ cS cR adX adM' adK adV N' (fun q : Nat => s.heap.size ≤ q) s σ' τ' H locs → lv_has ls 4 [(0, .ref b), (1, .ref (adX 0)), (2, .ref (adM' 0)), (3, .int (nI i))] → W p l e room_1 s m #[Value.ref b] below meth c H locs (cells + 29) (slots + 1060) Q (F0 m 1847 ls [])) : W p l e room_1 s m #[Value.ref b] below meth c H locs cells slots Q (F0 m 1220 ls []) := by
  obtain ⟨hx, hb, hml, hown, hts⟩ := id C0
  have hbA : ¬ (fun q : Nat => s.heap.size ≤ q) b := Nat.not_le.mpr hbl
  refine lv_aload_n hx hb dL_law_1220 rfl (lv_at hl 1 rfl) ?_
  refine lv_aload_n hx hb dL_law_1221 rfl (lv_at hl 0 rfl) ?_
  refine lv_iload_n hx hb dL_law_1222 rfl (lv_at hl 3 rfl) ?_
  refine lv_iconst (v := (1 : Int32)) hx hb dL_law_1223 (by decide) ?_
  refine lv_iadd hx hb dL_law_1224 ?_
  refine l_sld (i := i) (k := 1) C0 hX hbl hbA hw.1.2.2.2.1 (nI_add i 1) (by omega) hL dL_law_1225 ?_
  refine lv_aload_n hx hb dL_law_1226 rfl (lv_at hl 0 rfl) ?_
  refine lv_iload_n hx hb dL_law_1227 rfl (lv_at hl 3 rfl) ?_
  refine lv_iconst (v := (2 : Int32)) hx hb dL_law_1228 (by decide) ?_
  refine lv_iadd hx hb dL_law_1229 ?_
  refine l_sld (i := i) (k := 2) C0 hX hbl hbA hw.1.2.2.2.1 (nI_add i 2) (by omega) hL dL_law_1230 ?_
  obtain ⟨r, σ', τ', h1, h2, hR'⟩ := hop σ τ N (xs (i + 1)) (xs (i + 2)) hR
  refine l_callXi hw (va_runV (As := [.int (xs (i + 1)), .int (xs (i + 2))]) (rest := []) C0 (kX8_order h1 _) (cwV 2 hts gL_law_X8_order rfl rfl rfl eL_X8_order ⟨(Nat.le_of_ble_eq_true rfl), (Nat.le_of_ble_eq_true rfl)⟩) ⟨q_blind, q_recv (l_X hw) (xN_0 xF_0) (xE_0 xF_0) rfl, q_pre (l_X hw)⟩ rfl rfl hl.1 rfl (lv_room (Nat.le_of_ble_eq_true rfl)) dL_law_1231 ⟨(show cells + 0 ≤ 600000 by omega), (show slots + 0 ≤ 7302250 by omega)⟩) (fun H locs hw => ?_)
  refine lv_aload_n hx hb dL_law_1234 rfl (lv_at hl 2 rfl) ?_
  refine lv_aload_n hx hb dL_law_1235 rfl (lv_at hl 0 rfl) ?_
  refine lv_iload_n hx hb dL_law_1236 rfl (lv_at hl 3 rfl) ?_
  refine lv_iconst (v := (1 : Int32)) hx hb dL_law_1237 (by decide) ?_
  refine lv_iadd hx hb dL_law_1238 ?_
  refine l_sld (i := i) (k := 1) C0 hX hbl hbA hw.1.2.2.2.1 (nI_add i 1) (by omega) hL dL_law_1239 ?_
  refine lv_aload_n hx hb dL_law_1240 rfl (lv_at hl 0 rfl) ?_
  refine lv_iload_n hx hb dL_law_1241 rfl (lv_at hl 3 rfl) ?_
  refine lv_iconst (v := (2 : Int32)) hx hb dL_law_1242 (by decide) ?_
  refine lv_iadd hx hb dL_law_1243 ?_
  refine l_sld (i := i) (k := 2) C0 hX hbl hbA hw.1.2.2.2.1 (nI_add i 2) (by omega) hL dL_law_1244 ?_
  refine l_callMi hw (va_runV (As := [.int (xs (i + 1)), .int (xs (i + 2))]) (rest := [.int r]) C0 (kX9_order (hRN _ _ _ hR).1 h2 _) (cwV 2 hts gL_law_X9_order rfl rfl rfl eL_X9_order ⟨(Nat.le_of_ble_eq_true rfl), (Nat.le_of_ble_eq_true rfl)⟩) ⟨q_blind, q_recv (l_M hw) (mN_0 (hRN _ _ _ hR).1) (mE_0 (hRN _ _ _ hR).1) rfl, q_pre (l_M hw)⟩ rfl rfl hl.1 rfl (lv_room (Nat.le_of_ble_eq_true rfl)) dL_law_1245 ⟨(show cells + 0 ≤ 600000 by omega), (show slots + 0 ≤ 7302250 by omega)⟩) (fun H locs hw => ?_)
  refine lv_icmp_eq (tgt := 1847) hx hb dL_law_1248 (by decide) (fun _ => ?_) (fun z => absurd rfl z)
  refine W.widen (k := cells + 29) (n := slots + 1060) (by omega) (by omega) ?_
  exact kk _ _ _ _ _ _ _ hR' hw hl
end
