section
variable {p : Program} {l : Launch} {e : Env} {s : State} {m : MethodId} {below : List Frame} {meth : Method} {c : Code} {H : Heap} {locs : List Loc} {cells slots : Nat} {Q : State → Prop} {ls : Array Slot}
variable {D : va_G} {cI cJ cS cR : ClassId} {adX adM adK adV : Nat → Nat} {N : Nat} {σ τ σ1 : q_M} {b L i : Nat} {xs : Nat → Int32} {R : q_M → q_M → Nat → Prop}
set_option maxHeartbeats 4000000 in
set_option maxRecDepth 100000 in
theorem lc_ring (hop : Op_ring R) (hRN : ∀ σ τ N, R σ τ N → mB N 0 ∧ N % 29 = 0 ∧ N ≤ 87 ∧ mV N τ) (C0 : CallFix p m c code 4 s #[Value.ref b] wsL_law RL) (hX : va_X b L xs s s.heap) (hbl : b < s.heap.size) (hL : L < 2 ^ 31) (hi : i + 6 ≤ L) (hcs : cells + 29 ≤ 600000 ∧ slots + 1060 ≤ 7302250) (hR : R σ τ N) (hw : l_H D cI cJ cS cR adX adM adK adV N (fun q : Nat => s.heap.size ≤ q) s σ τ H locs) (hl : lv_has ls 4 [(0, .ref b), (1, .ref (adX 0)), (2, .ref (adM 0)), (3, .int (nI i))])
    (kk : ∀ (σ' τ' : q_M) (N' : Nat) (adM' : Nat → Nat) (H : Heap) (locs : List Loc) (ls : Array Slot), R σ' τ' N' → l_H D cI cJ cS cR adX adM' adK adV N' (fun q : Nat => s.heap.size ≤ q) s σ' τ' H locs → lv_has ls 4 [(0, .ref b), (1, .ref (adX 0)), (2, .ref (adM' 0)), (3, .int (nI i))] → W p l e room_1 s m #[Value.ref b] below meth c H locs (cells + 29) (slots + 1060) Q (F0 m 1847 ls [])) : W p l e room_1 s m #[Value.ref b] below meth c H locs cells slots Q (F0 m 1253 ls []) := by
  obtain ⟨hx, hb, hml, hown, hts⟩ := id C0
  have hbA : ¬ (fun q : Nat => s.heap.size ≤ q) b := Nat.not_le.mpr hbl
  refine lv_aload_n hx hb dL_law_1253 rfl (lv_at hl 1 rfl) ?_
  obtain ⟨r, σ', τ', h1, h2, hR'⟩ := hop σ τ N  hR
  refine l_callXi hw (va_runV (As := []) (rest := []) C0 (kX8_ring h1 _) (cwV 0 hts gL_law_X8_ring rfl rfl rfl eL_X8_ring ⟨(Nat.le_of_ble_eq_true rfl), (Nat.le_of_ble_eq_true rfl)⟩) ⟨q_blind, q_recv (l_X hw) (xN_0 xF_0) (xE_0 xF_0) rfl, q_pre (l_X hw)⟩ rfl rfl hl.1 rfl (lv_room (Nat.le_of_ble_eq_true rfl)) dL_law_1254 ⟨(show cells + 0 ≤ 600000 by omega), (show slots + 0 ≤ 7302250 by omega)⟩) (fun H locs hw => ?_)
  refine lv_aload_n hx hb dL_law_1257 rfl (lv_at hl 2 rfl) ?_
  refine l_callMi hw (va_runV (As := []) (rest := [.int r]) C0 (kX9_ring (hRN _ _ _ hR).1 h2 _) (cwV 0 hts gL_law_X9_ring rfl rfl rfl eL_X9_ring ⟨(Nat.le_of_ble_eq_true rfl), (Nat.le_of_ble_eq_true rfl)⟩) ⟨q_blind, q_recv (l_M hw) (mN_0 (hRN _ _ _ hR).1) (mE_0 (hRN _ _ _ hR).1) rfl, q_pre (l_M hw)⟩ rfl rfl hl.1 rfl (lv_room (Nat.le_of_ble_eq_true rfl)) dL_law_1258 ⟨(show cells + 0 ≤ 600000 by omega), (show slots + 0 ≤ 7302250 by omega)⟩) (fun H locs hw => ?_)
  refine lv_icmp_eq (tgt := 1847) hx hb dL_law_1261 (by decide) (fun _ => ?_) (fun z => absurd rfl z)
  refine W.widen (k := cells + 29) (n := slots + 1060) (by omega) (by omega) ?_
  exact kk _ _ _ _ _ _ _ hR' hw hl
set_option maxHeartbeats 4000000 in
set_option maxRecDepth 100000 in
theorem lc_serves (hop : Op_serves R) (hRN : ∀ σ τ N, R σ τ N → mB N 0 ∧ N % 29 = 0 ∧ N ≤ 87 ∧ mV N τ) (C0 : CallFix p m c code 4 s #[Value.ref b] wsL_law RL) (hX : va_X b L xs s s.heap) (hbl : b < s.heap.size) (hL : L < 2 ^ 31) (hi : i + 6 ≤ L) (hcs : cells + 29 ≤ 600000 ∧ slots + 1060 ≤ 7302250) (hR : R σ τ N) (hw : l_H D cI cJ cS cR adX adM adK adV N (fun q : Nat => s.heap.size ≤ q) s σ τ H locs) (hl : lv_has ls 4 [(0, .ref b), (1, .ref (adX 0)), (2, .ref (adM 0)), (3, .int (nI i))])
    (kk : ∀ (σ' τ' : q_M) (N' : Nat) (adM' : Nat → Nat) (H : Heap) (locs : List Loc) (ls : Array Slot), R σ' τ' N' → l_H D cI cJ cS cR adX adM' adK adV N' (fun q : Nat => s.heap.size ≤ q) s σ' τ' H locs → lv_has ls 4 [(0, .ref b), (1, .ref (adX 0)), (2, .ref (adM' 0)), (3, .int (nI i))] → W p l e room_1 s m #[Value.ref b] below meth c H locs (cells + 29) (slots + 1060) Q (F0 m 1847 ls [])) : W p l e room_1 s m #[Value.ref b] below meth c H locs cells slots Q (F0 m 1266 ls []) := by
  obtain ⟨hx, hb, hml, hown, hts⟩ := id C0
  have hbA : ¬ (fun q : Nat => s.heap.size ≤ q) b := Nat.not_le.mpr hbl
  refine lv_aload_n hx hb dL_law_1266 rfl (lv_at hl 1 rfl) ?_
  refine lv_aload_n hx hb dL_law_1267 rfl (lv_at hl 0 rfl) ?_
  refine lv_iload_n hx hb dL_law_1268 rfl (lv_at hl 3 rfl) ?_
  refine lv_iconst (v := (1 : Int32)) hx hb dL_law_1269 (by decide) ?_
  refine lv_iadd hx hb dL_law_1270 ?_
  refine l_sld (i := i) (k := 1) C0 hX hbl hbA hw.1.2.2.2.1 (nI_add i 1) (by omega) hL dL_law_1271 ?_
  obtain ⟨r, σ', τ', h1, h2, hR'⟩ := hop σ τ N (xs (i + 1)) hR
  refine l_callXi hw (va_runV (As := [.int (xs (i + 1))]) (rest := []) C0 (kX8_serves h1 _) (cwV 1 hts gL_law_X8_serves rfl rfl rfl eL_X8_serves ⟨(Nat.le_of_ble_eq_true rfl), (Nat.le_of_ble_eq_true rfl)⟩) ⟨q_blind, q_recv (l_X hw) (xN_0 xF_0) (xE_0 xF_0) rfl, q_pre (l_X hw)⟩ rfl rfl hl.1 rfl (lv_room (Nat.le_of_ble_eq_true rfl)) dL_law_1272 ⟨(show cells + 0 ≤ 600000 by omega), (show slots + 0 ≤ 7302250 by omega)⟩) (fun H locs hw => ?_)
  refine lv_aload_n hx hb dL_law_1275 rfl (lv_at hl 2 rfl) ?_
  refine lv_aload_n hx hb dL_law_1276 rfl (lv_at hl 0 rfl) ?_
  refine lv_iload_n hx hb dL_law_1277 rfl (lv_at hl 3 rfl) ?_
  refine lv_iconst (v := (1 : Int32)) hx hb dL_law_1278 (by decide) ?_
  refine lv_iadd hx hb dL_law_1279 ?_
  refine l_sld (i := i) (k := 1) C0 hX hbl hbA hw.1.2.2.2.1 (nI_add i 1) (by omega) hL dL_law_1280 ?_
  refine l_callMi hw (va_runV (As := [.int (xs (i + 1))]) (rest := [.int r]) C0 (kX9_serves (hRN _ _ _ hR).1 h2 _) (cwV 1 hts gL_law_X9_serves rfl rfl rfl eL_X9_serves ⟨(Nat.le_of_ble_eq_true rfl), (Nat.le_of_ble_eq_true rfl)⟩) ⟨q_blind, q_recv (l_M hw) (mN_0 (hRN _ _ _ hR).1) (mE_0 (hRN _ _ _ hR).1) rfl, q_pre (l_M hw)⟩ rfl rfl hl.1 rfl (lv_room (Nat.le_of_ble_eq_true rfl)) dL_law_1281 ⟨(show cells + 0 ≤ 600000 by omega), (show slots + 0 ≤ 7302250 by omega)⟩) (fun H locs hw => ?_)
  refine lv_icmp_eq (tgt := 1847) hx hb dL_law_1284 (by decide) (fun _ => ?_) (fun z => absurd rfl z)
  refine W.widen (k := cells + 29) (n := slots + 1060) (by omega) (by omega) ?_
  exact kk _ _ _ _ _ _ _ hR' hw hl
set_option maxHeartbeats 4000000 in
set_option maxRecDepth 100000 in
theorem lc_fewest (hop : Op_fewest R) (hRN : ∀ σ τ N, R σ τ N → mB N 0 ∧ N % 29 = 0 ∧ N ≤ 87 ∧ mV N τ) (C0 : CallFix p m c code 4 s #[Value.ref b] wsL_law RL) (hX : va_X b L xs s s.heap) (hbl : b < s.heap.size) (hL : L < 2 ^ 31) (hi : i + 6 ≤ L) (hcs : cells + 29 ≤ 600000 ∧ slots + 1060 ≤ 7302250) (hR : R σ τ N) (hw : l_H D cI cJ cS cR adX adM adK adV N (fun q : Nat => s.heap.size ≤ q) s σ τ H locs) (hl : lv_has ls 4 [(0, .ref b), (1, .ref (adX 0)), (2, .ref (adM 0)), (3, .int (nI i))])
    (kk : ∀ (σ' τ' : q_M) (N' : Nat) (adM' : Nat → Nat) (H : Heap) (locs : List Loc) (ls : Array Slot), R σ' τ' N' → l_H D cI cJ cS cR adX adM' adK adV N' (fun q : Nat => s.heap.size ≤ q) s σ' τ' H locs → lv_has ls 4 [(0, .ref b), (1, .ref (adX 0)), (2, .ref (adM' 0)), (3, .int (nI i))] → W p l e room_1 s m #[Value.ref b] below meth c H locs (cells + 29) (slots + 1060) Q (F0 m 1847 ls [])) : W p l e room_1 s m #[Value.ref b] below meth c H locs cells slots Q (F0 m 1289 ls []) := by
  obtain ⟨hx, hb, hml, hown, hts⟩ := id C0
  have hbA : ¬ (fun q : Nat => s.heap.size ≤ q) b := Nat.not_le.mpr hbl
  refine lv_aload_n hx hb dL_law_1289 rfl (lv_at hl 1 rfl) ?_
  obtain ⟨r, σ', τ', h1, h2, hR'⟩ := hop σ τ N  hR
  refine l_callXi hw (va_runV (As := []) (rest := []) C0 (kX8_fewest h1 _) (cwV 0 hts gL_law_X8_fewest rfl rfl rfl eL_X8_fewest ⟨(Nat.le_of_ble_eq_true rfl), (Nat.le_of_ble_eq_true rfl)⟩) ⟨q_blind, q_recv (l_X hw) (xN_0 xF_0) (xE_0 xF_0) rfl, q_pre (l_X hw)⟩ rfl rfl hl.1 rfl (lv_room (Nat.le_of_ble_eq_true rfl)) dL_law_1290 ⟨(show cells + 0 ≤ 600000 by omega), (show slots + 0 ≤ 7302250 by omega)⟩) (fun H locs hw => ?_)
  refine lv_aload_n hx hb dL_law_1293 rfl (lv_at hl 2 rfl) ?_
  refine l_callMi hw (va_runV (As := []) (rest := [.int r]) C0 (kX9_fewest (hRN _ _ _ hR).1 h2 _) (cwV 0 hts gL_law_X9_fewest rfl rfl rfl eL_X9_fewest ⟨(Nat.le_of_ble_eq_true rfl), (Nat.le_of_ble_eq_true rfl)⟩) ⟨q_blind, q_recv (l_M hw) (mN_0 (hRN _ _ _ hR).1) (mE_0 (hRN _ _ _ hR).1) rfl, q_pre (l_M hw)⟩ rfl rfl hl.1 rfl (lv_room (Nat.le_of_ble_eq_true rfl)) dL_law_1294 ⟨(show cells + 0 ≤ 600000 by omega), (show slots + 0 ≤ 7302250 by omega)⟩) (fun H locs hw => ?_)
  refine lv_icmp_eq (tgt := 1847) hx hb dL_law_1297 (by decide) (fun _ => ?_) (fun z => absurd rfl z)
  refine W.widen (k := cells + 29) (n := slots + 1060) (by omega) (by omega) ?_
  exact kk _ _ _ _ _ _ _ hR' hw hl
set_option maxHeartbeats 4000000 in
set_option maxRecDepth 100000 in
theorem lc_parted (hop : Op_parted R) (hRN : ∀ σ τ N, R σ τ N → mB N 0 ∧ N % 29 = 0 ∧ N ≤ 87 ∧ mV N τ) (C0 : CallFix p m c code 4 s #[Value.ref b] wsL_law RL) (hX : va_X b L xs s s.heap) (hbl : b < s.heap.size) (hL : L < 2 ^ 31) (hi : i + 6 ≤ L) (hcs : cells + 29 ≤ 600000 ∧ slots + 1060 ≤ 7302250) (hR : R σ τ N) (hw : l_H D cI cJ cS cR adX adM adK adV N (fun q : Nat => s.heap.size ≤ q) s σ τ H locs) (hl : lv_has ls 4 [(0, .ref b), (1, .ref (adX 0)), (2, .ref (adM 0)), (3, .int (nI i))])
    (kk : ∀ (σ' τ' : q_M) (N' : Nat) (adM' : Nat → Nat) (H : Heap) (locs : List Loc) (ls : Array Slot), R σ' τ' N' → l_H D cI cJ cS cR adX adM' adK adV N' (fun q : Nat => s.heap.size ≤ q) s σ' τ' H locs → lv_has ls 4 [(0, .ref b), (1, .ref (adX 0)), (2, .ref (adM' 0)), (3, .int (nI i))] → W p l e room_1 s m #[Value.ref b] below meth c H locs (cells + 29) (slots + 1060) Q (F0 m 1847 ls [])) : W p l e room_1 s m #[Value.ref b] below meth c H locs cells slots Q (F0 m 1302 ls []) := by
  obtain ⟨hx, hb, hml, hown, hts⟩ := id C0
  have hbA : ¬ (fun q : Nat => s.heap.size ≤ q) b := Nat.not_le.mpr hbl
  refine lv_aload_n hx hb dL_law_1302 rfl (lv_at hl 1 rfl) ?_
  refine lv_aload_n hx hb dL_law_1303 rfl (lv_at hl 0 rfl) ?_
  refine lv_iload_n hx hb dL_law_1304 rfl (lv_at hl 3 rfl) ?_
  refine lv_iconst (v := (1 : Int32)) hx hb dL_law_1305 (by decide) ?_
  refine lv_iadd hx hb dL_law_1306 ?_
  refine l_sld (i := i) (k := 1) C0 hX hbl hbA hw.1.2.2.2.1 (nI_add i 1) (by omega) hL dL_law_1307 ?_
  refine lv_aload_n hx hb dL_law_1308 rfl (lv_at hl 0 rfl) ?_
  refine lv_iload_n hx hb dL_law_1309 rfl (lv_at hl 3 rfl) ?_
  refine lv_iconst (v := (2 : Int32)) hx hb dL_law_1310 (by decide) ?_
  refine lv_iadd hx hb dL_law_1311 ?_
  refine l_sld (i := i) (k := 2) C0 hX hbl hbA hw.1.2.2.2.1 (nI_add i 2) (by omega) hL dL_law_1312 ?_
  obtain ⟨r, σ', τ', h1, h2, hR'⟩ := hop σ τ N (xs (i + 1)) (xs (i + 2)) hR
  refine l_callXi hw (va_runV (As := [.int (xs (i + 1)), .int (xs (i + 2))]) (rest := []) C0 (kX8_parted h1 _) (cwV 2 hts gL_law_X8_parted rfl rfl rfl eL_X8_parted ⟨(Nat.le_of_ble_eq_true rfl), (Nat.le_of_ble_eq_true rfl)⟩) ⟨q_blind, q_recv (l_X hw) (xN_0 xF_0) (xE_0 xF_0) rfl, q_pre (l_X hw)⟩ rfl rfl hl.1 rfl (lv_room (Nat.le_of_ble_eq_true rfl)) dL_law_1313 ⟨(show cells + 0 ≤ 600000 by omega), (show slots + 0 ≤ 7302250 by omega)⟩) (fun H locs hw => ?_)
  refine lv_aload_n hx hb dL_law_1316 rfl (lv_at hl 2 rfl) ?_
  refine lv_aload_n hx hb dL_law_1317 rfl (lv_at hl 0 rfl) ?_
  refine lv_iload_n hx hb dL_law_1318 rfl (lv_at hl 3 rfl) ?_
  refine lv_iconst (v := (1 : Int32)) hx hb dL_law_1319 (by decide) ?_
  refine lv_iadd hx hb dL_law_1320 ?_
  refine l_sld (i := i) (k := 1) C0 hX hbl hbA hw.1.2.2.2.1 (nI_add i 1) (by omega) hL dL_law_1321 ?_
  refine lv_aload_n hx hb dL_law_1322 rfl (lv_at hl 0 rfl) ?_
  refine lv_iload_n hx hb dL_law_1323 rfl (lv_at hl 3 rfl) ?_
  refine lv_iconst (v := (2 : Int32)) hx hb dL_law_1324 (by decide) ?_
  refine lv_iadd hx hb dL_law_1325 ?_
  refine l_sld (i := i) (k := 2) C0 hX hbl hbA hw.1.2.2.2.1 (nI_add i 2) (by omega) hL dL_law_1326 ?_
  refine l_callMi hw (va_runV (As := [.int (xs (i + 1)), .int (xs (i + 2))]) (rest := [.int r]) C0 (kX9_parted (hRN _ _ _ hR).1 h2 _) (cwV 2 hts gL_law_X9_parted rfl rfl rfl eL_X9_parted ⟨(Nat.le_of_ble_eq_true rfl), (Nat.le_of_ble_eq_true rfl)⟩) ⟨q_blind, q_recv (l_M hw) (mN_0 (hRN _ _ _ hR).1) (mE_0 (hRN _ _ _ hR).1) rfl, q_pre (l_M hw)⟩ rfl rfl hl.1 rfl (lv_room (Nat.le_of_ble_eq_true rfl)) dL_law_1327 ⟨(show cells + 0 ≤ 600000 by omega), (show slots + 0 ≤ 7302250 by omega)⟩) (fun H locs hw => ?_)
  refine lv_icmp_eq (tgt := 1847) hx hb dL_law_1330 (by decide) (fun _ => ?_) (fun z => absurd rfl z)
  refine W.widen (k := cells + 29) (n := slots + 1060) (by omega) (by omega) ?_
  exact kk _ _ _ _ _ _ _ hR' hw hl
set_option maxHeartbeats 4000000 in
set_option maxRecDepth 100000 in
theorem lc_hidden (hop : Op_hidden R) (hRN : ∀ σ τ N, R σ τ N → mB N 0 ∧ N % 29 = 0 ∧ N ≤ 87 ∧ mV N τ) (C0 : CallFix p m c code 4 s #[Value.ref b] wsL_law RL) (hX : va_X b L xs s s.heap) (hbl : b < s.heap.size) (hL : L < 2 ^ 31) (hi : i + 6 ≤ L) (hcs : cells + 29 ≤ 600000 ∧ slots + 1060 ≤ 7302250) (hR : R σ τ N) (hw : l_H D cI cJ cS cR adX adM adK adV N (fun q : Nat => s.heap.size ≤ q) s σ τ H locs) (hl : lv_has ls 4 [(0, .ref b), (1, .ref (adX 0)), (2, .ref (adM 0)), (3, .int (nI i))])
    (kk : ∀ (σ' τ' : q_M) (N' : Nat) (adM' : Nat → Nat) (H : Heap) (locs : List Loc) (ls : Array Slot), R σ' τ' N' → l_H D cI cJ cS cR adX adM' adK adV N' (fun q : Nat => s.heap.size ≤ q) s σ' τ' H locs → lv_has ls 4 [(0, .ref b), (1, .ref (adX 0)), (2, .ref (adM' 0)), (3, .int (nI i))] → W p l e room_1 s m #[Value.ref b] below meth c H locs (cells + 29) (slots + 1060) Q (F0 m 1847 ls [])) : W p l e room_1 s m #[Value.ref b] below meth c H locs cells slots Q (F0 m 1335 ls []) := by
  obtain ⟨hx, hb, hml, hown, hts⟩ := id C0
  have hbA : ¬ (fun q : Nat => s.heap.size ≤ q) b := Nat.not_le.mpr hbl
  refine lv_aload_n hx hb dL_law_1335 rfl (lv_at hl 1 rfl) ?_
  obtain ⟨r, σ', τ', h1, h2, hR'⟩ := hop σ τ N  hR
  refine l_callXi hw (va_runV (As := []) (rest := []) C0 (kX8_hidden h1 _) (cwV 0 hts gL_law_X8_hidden rfl rfl rfl eL_X8_hidden ⟨(Nat.le_of_ble_eq_true rfl), (Nat.le_of_ble_eq_true rfl)⟩) ⟨q_blind, q_recv (l_X hw) (xN_0 xF_0) (xE_0 xF_0) rfl, q_pre (l_X hw)⟩ rfl rfl hl.1 rfl (lv_room (Nat.le_of_ble_eq_true rfl)) dL_law_1336 ⟨(show cells + 0 ≤ 600000 by omega), (show slots + 0 ≤ 7302250 by omega)⟩) (fun H locs hw => ?_)
  refine lv_aload_n hx hb dL_law_1339 rfl (lv_at hl 2 rfl) ?_
  refine l_callMi hw (va_runV (As := []) (rest := [.int r]) C0 (kX9_hidden (hRN _ _ _ hR).1 h2 _) (cwV 0 hts gL_law_X9_hidden rfl rfl rfl eL_X9_hidden ⟨(Nat.le_of_ble_eq_true rfl), (Nat.le_of_ble_eq_true rfl)⟩) ⟨q_blind, q_recv (l_M hw) (mN_0 (hRN _ _ _ hR).1) (mE_0 (hRN _ _ _ hR).1) rfl, q_pre (l_M hw)⟩ rfl rfl hl.1 rfl (lv_room (Nat.le_of_ble_eq_true rfl)) dL_law_1340 ⟨(show cells + 0 ≤ 600000 by omega), (show slots + 0 ≤ 7302250 by omega)⟩) (fun H locs hw => ?_)
  refine lv_icmp_eq (tgt := 1847) hx hb dL_law_1343 (by decide) (fun _ => ?_) (fun z => absurd rfl z)
  refine W.widen (k := cells + 29) (n := slots + 1060) (by omega) (by omega) ?_
  exact kk _ _ _ _ _ _ _ hR' hw hl
set_option maxHeartbeats 4000000 in
set_option maxRecDepth 100000 in
theorem lc_make (hop : Op_make R) (hRN : ∀ σ τ N, R σ τ N → mB N 0 ∧ N % 29 = 0 ∧ N ≤ 87 ∧ mV N τ) (C0 : CallFix p m c code 4 s #[Value.ref b] wsL_law RL) (hX : va_X b L xs s s.heap) (hbl : b < s.heap.size) (hL : L < 2 ^ 31) (hi : i + 6 ≤ L) (hcs : cells + 29 ≤ 600000 ∧ slots + 1060 ≤ 7302250) (hR : R σ τ N) (hw : l_H D cI cJ cS cR adX adM adK adV N (fun q : Nat => s.heap.size ≤ q) s σ τ H locs) (hl : lv_has ls 4 [(0, .ref b), (1, .ref (adX 0)), (2, .ref (adM 0)), (3, .int (nI i))])
    (kk : ∀ (σ' τ' : q_M) (N' : Nat) (adM' : Nat → Nat) (H : Heap) (locs : List Loc) (ls : Array Slot), R σ' τ' N' → l_H D cI cJ cS cR adX adM' adK adV N' (fun q : Nat => s.heap.size ≤ q) s σ' τ' H locs → lv_has ls 4 [(0, .ref b), (1, .ref (adX 0)), (2, .ref (adM' 0)), (3, .int (nI i))] → W p l e room_1 s m #[Value.ref b] below meth c H locs (cells + 29) (slots + 1060) Q (F0 m 1847 ls [])) : W p l e room_1 s m #[Value.ref b] below meth c H locs cells slots Q (F0 m 1348 ls []) := by
  obtain ⟨hx, hb, hml, hown, hts⟩ := id C0
  have hbA : ¬ (fun q : Nat => s.heap.size ≤ q) b := Nat.not_le.mpr hbl
  refine lv_aload_n hx hb dL_law_1348 rfl (lv_at hl 1 rfl) ?_
  refine lv_aload_n hx hb dL_law_1349 rfl (lv_at hl 0 rfl) ?_
  refine lv_iload_n hx hb dL_law_1350 rfl (lv_at hl 3 rfl) ?_
  refine lv_iconst (v := (1 : Int32)) hx hb dL_law_1351 (by decide) ?_
  refine lv_iadd hx hb dL_law_1352 ?_
  refine l_sld (i := i) (k := 1) C0 hX hbl hbA hw.1.2.2.2.1 (nI_add i 1) (by omega) hL dL_law_1353 ?_
  obtain ⟨r, σ', τ', h1, h2, hR'⟩ := hop σ τ N (xs (i + 1)) hR
  refine l_callXi hw (va_runV (As := [.int (xs (i + 1))]) (rest := []) C0 (kX8_make h1 _) (cwV 1 hts gL_law_X8_make rfl rfl rfl eL_X8_make ⟨(Nat.le_of_ble_eq_true rfl), (Nat.le_of_ble_eq_true rfl)⟩) ⟨q_blind, q_recv (l_X hw) (xN_0 xF_0) (xE_0 xF_0) rfl, q_pre (l_X hw)⟩ rfl rfl hl.1 rfl (lv_room (Nat.le_of_ble_eq_true rfl)) dL_law_1354 ⟨(show cells + 0 ≤ 600000 by omega), (show slots + 0 ≤ 7302250 by omega)⟩) (fun H locs hw => ?_)
  refine lv_aload_n hx hb dL_law_1357 rfl (lv_at hl 2 rfl) ?_
  refine lv_aload_n hx hb dL_law_1358 rfl (lv_at hl 0 rfl) ?_
  refine lv_iload_n hx hb dL_law_1359 rfl (lv_at hl 3 rfl) ?_
  refine lv_iconst (v := (1 : Int32)) hx hb dL_law_1360 (by decide) ?_
  refine lv_iadd hx hb dL_law_1361 ?_
  refine l_sld (i := i) (k := 1) C0 hX hbl hbA hw.1.2.2.2.1 (nI_add i 1) (by omega) hL dL_law_1362 ?_
  refine l_callMi hw (va_runV (As := [.int (xs (i + 1))]) (rest := [.int r]) C0 (kX9_make (hRN _ _ _ hR).1 h2 _) (cwV 1 hts gL_law_X9_make rfl rfl rfl eL_X9_make ⟨(Nat.le_of_ble_eq_true rfl), (Nat.le_of_ble_eq_true rfl)⟩) ⟨q_blind, q_recv (l_M hw) (mN_0 (hRN _ _ _ hR).1) (mE_0 (hRN _ _ _ hR).1) rfl, q_pre (l_M hw)⟩ rfl rfl hl.1 rfl (lv_room (Nat.le_of_ble_eq_true rfl)) dL_law_1363 ⟨(show cells + 0 ≤ 600000 by omega), (show slots + 0 ≤ 7302250 by omega)⟩) (fun H locs hw => ?_)
  refine lv_icmp_eq (tgt := 1847) hx hb dL_law_1366 (by decide) (fun _ => ?_) (fun z => absurd rfl z)
  refine W.widen (k := cells + 29) (n := slots + 1060) (by omega) (by omega) ?_
  exact kk _ _ _ _ _ _ _ hR' hw hl
set_option maxHeartbeats 4000000 in
set_option maxRecDepth 100000 in
theorem lc_halves (hop : Op_halves R) (hRN : ∀ σ τ N, R σ τ N → mB N 0 ∧ N % 29 = 0 ∧ N ≤ 87 ∧ mV N τ) (C0 : CallFix p m c code 4 s #[Value.ref b] wsL_law RL) (hX : va_X b L xs s s.heap) (hbl : b < s.heap.size) (hL : L < 2 ^ 31) (hi : i + 6 ≤ L) (hcs : cells + 29 ≤ 600000 ∧ slots + 1060 ≤ 7302250) (hR : R σ τ N) (hw : l_H D cI cJ cS cR adX adM adK adV N (fun q : Nat => s.heap.size ≤ q) s σ τ H locs) (hl : lv_has ls 4 [(0, .ref b), (1, .ref (adX 0)), (2, .ref (adM 0)), (3, .int (nI i))])
    (kk : ∀ (σ' τ' : q_M) (N' : Nat) (adM' : Nat → Nat) (H : Heap) (locs : List Loc) (ls : Array Slot), R σ' τ' N' → l_H D cI cJ cS cR adX adM' adK adV N' (fun q : Nat => s.heap.size ≤ q) s σ' τ' H locs → lv_has ls 4 [(0, .ref b), (1, .ref (adX 0)), (2, .ref (adM' 0)), (3, .int (nI i))] → W p l e room_1 s m #[Value.ref b] below meth c H locs (cells + 29) (slots + 1060) Q (F0 m 1847 ls [])) : W p l e room_1 s m #[Value.ref b] below meth c H locs cells slots Q (F0 m 1371 ls []) := by
  obtain ⟨hx, hb, hml, hown, hts⟩ := id C0
  have hbA : ¬ (fun q : Nat => s.heap.size ≤ q) b := Nat.not_le.mpr hbl
  refine lv_aload_n hx hb dL_law_1371 rfl (lv_at hl 1 rfl) ?_
  refine lv_aload_n hx hb dL_law_1372 rfl (lv_at hl 0 rfl) ?_
  refine lv_iload_n hx hb dL_law_1373 rfl (lv_at hl 3 rfl) ?_
  refine lv_iconst (v := (1 : Int32)) hx hb dL_law_1374 (by decide) ?_
  refine lv_iadd hx hb dL_law_1375 ?_
  refine l_sld (i := i) (k := 1) C0 hX hbl hbA hw.1.2.2.2.1 (nI_add i 1) (by omega) hL dL_law_1376 ?_
  obtain ⟨r, σ', τ', h1, h2, hR'⟩ := hop σ τ N (xs (i + 1)) hR
  refine l_callXi hw (va_runV (As := [.int (xs (i + 1))]) (rest := []) C0 (kX8_halves h1 _) (cwV 1 hts gL_law_X8_halves rfl rfl rfl eL_X8_halves ⟨(Nat.le_of_ble_eq_true rfl), (Nat.le_of_ble_eq_true rfl)⟩) ⟨q_blind, q_recv (l_X hw) (xN_0 xF_0) (xE_0 xF_0) rfl, q_pre (l_X hw)⟩ rfl rfl hl.1 rfl (lv_room (Nat.le_of_ble_eq_true rfl)) dL_law_1377 ⟨(show cells + 0 ≤ 600000 by omega), (show slots + 0 ≤ 7302250 by omega)⟩) (fun H locs hw => ?_)
  refine lv_aload_n hx hb dL_law_1380 rfl (lv_at hl 2 rfl) ?_
  refine lv_aload_n hx hb dL_law_1381 rfl (lv_at hl 0 rfl) ?_
  refine lv_iload_n hx hb dL_law_1382 rfl (lv_at hl 3 rfl) ?_
  refine lv_iconst (v := (1 : Int32)) hx hb dL_law_1383 (by decide) ?_
  refine lv_iadd hx hb dL_law_1384 ?_
  refine l_sld (i := i) (k := 1) C0 hX hbl hbA hw.1.2.2.2.1 (nI_add i 1) (by omega) hL dL_law_1385 ?_
  refine l_callMi hw (va_runV (As := [.int (xs (i + 1))]) (rest := [.int r]) C0 (kX9_halves (hRN _ _ _ hR).1 h2 _) (cwV 1 hts gL_law_X9_halves rfl rfl rfl eL_X9_halves ⟨(Nat.le_of_ble_eq_true rfl), (Nat.le_of_ble_eq_true rfl)⟩) ⟨q_blind, q_recv (l_M hw) (mN_0 (hRN _ _ _ hR).1) (mE_0 (hRN _ _ _ hR).1) rfl, q_pre (l_M hw)⟩ rfl rfl hl.1 rfl (lv_room (Nat.le_of_ble_eq_true rfl)) dL_law_1386 ⟨(show cells + 0 ≤ 600000 by omega), (show slots + 0 ≤ 7302250 by omega)⟩) (fun H locs hw => ?_)
  refine lv_icmp_eq (tgt := 1847) hx hb dL_law_1389 (by decide) (fun _ => ?_) (fun z => absurd rfl z)
  refine W.widen (k := cells + 29) (n := slots + 1060) (by omega) (by omega) ?_
  exact kk _ _ _ _ _ _ _ hR' hw hl
set_option maxHeartbeats 4000000 in
set_option maxRecDepth 100000 in
theorem lc_line (hop : Op_line R) (hRN : ∀ σ τ N, R σ τ N → mB N 0 ∧ N % 29 = 0 ∧ N ≤ 87 ∧ mV N τ) (C0 : CallFix p m c code 4 s #[Value.ref b] wsL_law RL) (hX : va_X b L xs s s.heap) (hbl : b < s.heap.size) (hL : L < 2 ^ 31) (hi : i + 6 ≤ L) (hcs : cells + 29 ≤ 600000 ∧ slots + 1060 ≤ 7302250) (hR : R σ τ N) (hw : l_H D cI cJ cS cR adX adM adK adV N (fun q : Nat => s.heap.size ≤ q) s σ τ H locs) (hl : lv_has ls 4 [(0, .ref b), (1, .ref (adX 0)), (2, .ref (adM 0)), (3, .int (nI i))])
    (kk : ∀ (σ' τ' : q_M) (N' : Nat) (adM' : Nat → Nat) (H : Heap) (locs : List Loc) (ls : Array Slot), R σ' τ' N' → l_H D cI cJ cS cR adX adM' adK adV N' (fun q : Nat => s.heap.size ≤ q) s σ' τ' H locs → lv_has ls 4 [(0, .ref b), (1, .ref (adX 0)), (2, .ref (adM' 0)), (3, .int (nI i))] → W p l e room_1 s m #[Value.ref b] below meth c H locs (cells + 29) (slots + 1060) Q (F0 m 1847 ls [])) : W p l e room_1 s m #[Value.ref b] below meth c H locs cells slots Q (F0 m 1394 ls []) := by
  obtain ⟨hx, hb, hml, hown, hts⟩ := id C0
  have hbA : ¬ (fun q : Nat => s.heap.size ≤ q) b := Nat.not_le.mpr hbl
  refine lv_aload_n hx hb dL_law_1394 rfl (lv_at hl 1 rfl) ?_
  refine lv_aload_n hx hb dL_law_1395 rfl (lv_at hl 0 rfl) ?_
  refine lv_iload_n hx hb dL_law_1396 rfl (lv_at hl 3 rfl) ?_
  refine lv_iconst (v := (1 : Int32)) hx hb dL_law_1397 (by decide) ?_
  refine lv_iadd hx hb dL_law_1398 ?_
  refine l_sld (i := i) (k := 1) C0 hX hbl hbA hw.1.2.2.2.1 (nI_add i 1) (by omega) hL dL_law_1399 ?_
  obtain ⟨r, σ', τ', h1, h2, hR'⟩ := hop σ τ N (xs (i + 1)) hR
  refine l_callXi hw (va_runV (As := [.int (xs (i + 1))]) (rest := []) C0 (kX8_line h1 _) (cwV 1 hts gL_law_X8_line rfl rfl rfl eL_X8_line ⟨(Nat.le_of_ble_eq_true rfl), (Nat.le_of_ble_eq_true rfl)⟩) ⟨q_blind, q_recv (l_X hw) (xN_0 xF_0) (xE_0 xF_0) rfl, q_pre (l_X hw)⟩ rfl rfl hl.1 rfl (lv_room (Nat.le_of_ble_eq_true rfl)) dL_law_1400 ⟨(show cells + 0 ≤ 600000 by omega), (show slots + 0 ≤ 7302250 by omega)⟩) (fun H locs hw => ?_)
  refine lv_aload_n hx hb dL_law_1403 rfl (lv_at hl 2 rfl) ?_
  refine lv_aload_n hx hb dL_law_1404 rfl (lv_at hl 0 rfl) ?_
  refine lv_iload_n hx hb dL_law_1405 rfl (lv_at hl 3 rfl) ?_
  refine lv_iconst (v := (1 : Int32)) hx hb dL_law_1406 (by decide) ?_
  refine lv_iadd hx hb dL_law_1407 ?_
  refine l_sld (i := i) (k := 1) C0 hX hbl hbA hw.1.2.2.2.1 (nI_add i 1) (by omega) hL dL_law_1408 ?_
  refine l_callMi hw (va_runV (As := [.int (xs (i + 1))]) (rest := [.int r]) C0 (kX9_line (hRN _ _ _ hR).1 h2 _) (cwV 1 hts gL_law_X9_line rfl rfl rfl eL_X9_line ⟨(Nat.le_of_ble_eq_true rfl), (Nat.le_of_ble_eq_true rfl)⟩) ⟨q_blind, q_recv (l_M hw) (mN_0 (hRN _ _ _ hR).1) (mE_0 (hRN _ _ _ hR).1) rfl, q_pre (l_M hw)⟩ rfl rfl hl.1 rfl (lv_room (Nat.le_of_ble_eq_true rfl)) dL_law_1409 ⟨(show cells + 0 ≤ 600000 by omega), (show slots + 0 ≤ 7302250 by omega)⟩) (fun H locs hw => ?_)
  refine lv_icmp_eq (tgt := 1847) hx hb dL_law_1412 (by decide) (fun _ => ?_) (fun z => absurd rfl z)
  refine W.widen (k := cells + 29) (n := slots + 1060) (by omega) (by omega) ?_
  exact kk _ _ _ _ _ _ _ hR' hw hl
set_option maxHeartbeats 4000000 in
set_option maxRecDepth 100000 in
theorem lc_cut (hop : Op_cut R) (hRN : ∀ σ τ N, R σ τ N → mB N 0 ∧ N % 29 = 0 ∧ N ≤ 87 ∧ mV N τ) (C0 : CallFix p m c code 4 s #[Value.ref b] wsL_law RL) (hX : va_X b L xs s s.heap) (hbl : b < s.heap.size) (hL : L < 2 ^ 31) (hi : i + 6 ≤ L) (hcs : cells + 29 ≤ 600000 ∧ slots + 1060 ≤ 7302250) (hR : R σ τ N) (hw : l_H D cI cJ cS cR adX adM adK adV N (fun q : Nat => s.heap.size ≤ q) s σ τ H locs) (hl : lv_has ls 4 [(0, .ref b), (1, .ref (adX 0)), (2, .ref (adM 0)), (3, .int (nI i))])
    (kk : ∀ (σ' τ' : q_M) (N' : Nat) (adM' : Nat → Nat) (H : Heap) (locs : List Loc) (ls : Array Slot), R σ' τ' N' → l_H D cI cJ cS cR adX adM' adK adV N' (fun q : Nat => s.heap.size ≤ q) s σ' τ' H locs → lv_has ls 4 [(0, .ref b), (1, .ref (adX 0)), (2, .ref (adM' 0)), (3, .int (nI i))] → W p l e room_1 s m #[Value.ref b] below meth c H locs (cells + 29) (slots + 1060) Q (F0 m 1847 ls [])) : W p l e room_1 s m #[Value.ref b] below meth c H locs cells slots Q (F0 m 1417 ls []) := by
  obtain ⟨hx, hb, hml, hown, hts⟩ := id C0
  have hbA : ¬ (fun q : Nat => s.heap.size ≤ q) b := Nat.not_le.mpr hbl
  refine lv_aload_n hx hb dL_law_1417 rfl (lv_at hl 1 rfl) ?_
  refine lv_aload_n hx hb dL_law_1418 rfl (lv_at hl 0 rfl) ?_
  refine lv_iload_n hx hb dL_law_1419 rfl (lv_at hl 3 rfl) ?_
  refine lv_iconst (v := (1 : Int32)) hx hb dL_law_1420 (by decide) ?_
  refine lv_iadd hx hb dL_law_1421 ?_
  refine l_sld (i := i) (k := 1) C0 hX hbl hbA hw.1.2.2.2.1 (nI_add i 1) (by omega) hL dL_law_1422 ?_
  refine lv_aload_n hx hb dL_law_1423 rfl (lv_at hl 0 rfl) ?_
  refine lv_iload_n hx hb dL_law_1424 rfl (lv_at hl 3 rfl) ?_
  refine lv_iconst (v := (2 : Int32)) hx hb dL_law_1425 (by decide) ?_
  refine lv_iadd hx hb dL_law_1426 ?_
  refine l_sld (i := i) (k := 2) C0 hX hbl hbA hw.1.2.2.2.1 (nI_add i 2) (by omega) hL dL_law_1427 ?_
  obtain ⟨r, σ', τ', h1, h2, hR'⟩ := hop σ τ N (xs (i + 1)) (xs (i + 2)) hR
  refine l_callXi hw (va_runV (As := [.int (xs (i + 1)), .int (xs (i + 2))]) (rest := []) C0 (kX8_cut h1 _) (cwV 2 hts gL_law_X8_cut rfl rfl rfl eL_X8_cut ⟨(Nat.le_of_ble_eq_true rfl), (Nat.le_of_ble_eq_true rfl)⟩) ⟨q_blind, q_recv (l_X hw) (xN_0 xF_0) (xE_0 xF_0) rfl, q_pre (l_X hw)⟩ rfl rfl hl.1 rfl (lv_room (Nat.le_of_ble_eq_true rfl)) dL_law_1428 ⟨(show cells + 0 ≤ 600000 by omega), (show slots + 0 ≤ 7302250 by omega)⟩) (fun H locs hw => ?_)
  refine lv_aload_n hx hb dL_law_1431 rfl (lv_at hl 2 rfl) ?_
  refine lv_aload_n hx hb dL_law_1432 rfl (lv_at hl 0 rfl) ?_
  refine lv_iload_n hx hb dL_law_1433 rfl (lv_at hl 3 rfl) ?_
  refine lv_iconst (v := (1 : Int32)) hx hb dL_law_1434 (by decide) ?_
  refine lv_iadd hx hb dL_law_1435 ?_
  refine l_sld (i := i) (k := 1) C0 hX hbl hbA hw.1.2.2.2.1 (nI_add i 1) (by omega) hL dL_law_1436 ?_
  refine lv_aload_n hx hb dL_law_1437 rfl (lv_at hl 0 rfl) ?_
  refine lv_iload_n hx hb dL_law_1438 rfl (lv_at hl 3 rfl) ?_
  refine lv_iconst (v := (2 : Int32)) hx hb dL_law_1439 (by decide) ?_
  refine lv_iadd hx hb dL_law_1440 ?_
  refine l_sld (i := i) (k := 2) C0 hX hbl hbA hw.1.2.2.2.1 (nI_add i 2) (by omega) hL dL_law_1441 ?_
  refine l_callMi hw (va_runV (As := [.int (xs (i + 1)), .int (xs (i + 2))]) (rest := [.int r]) C0 (kX9_cut (hRN _ _ _ hR).1 h2 _) (cwV 2 hts gL_law_X9_cut rfl rfl rfl eL_X9_cut ⟨(Nat.le_of_ble_eq_true rfl), (Nat.le_of_ble_eq_true rfl)⟩) ⟨q_blind, q_recv (l_M hw) (mN_0 (hRN _ _ _ hR).1) (mE_0 (hRN _ _ _ hR).1) rfl, q_pre (l_M hw)⟩ rfl rfl hl.1 rfl (lv_room (Nat.le_of_ble_eq_true rfl)) dL_law_1442 ⟨(show cells + 0 ≤ 600000 by omega), (show slots + 0 ≤ 7302250 by omega)⟩) (fun H locs hw => ?_)
  refine lv_icmp_eq (tgt := 1847) hx hb dL_law_1445 (by decide) (fun _ => ?_) (fun z => absurd rfl z)
  refine W.widen (k := cells + 29) (n := slots + 1060) (by omega) (by omega) ?_
  exact kk _ _ _ _ _ _ _ hR' hw hl
set_option maxHeartbeats 4000000 in
set_option maxRecDepth 100000 in
theorem lc_best (hop : Op_best R) (hRN : ∀ σ τ N, R σ τ N → mB N 0 ∧ N % 29 = 0 ∧ N ≤ 87 ∧ mV N τ) (C0 : CallFix p m c code 4 s #[Value.ref b] wsL_law RL) (hX : va_X b L xs s s.heap) (hbl : b < s.heap.size) (hL : L < 2 ^ 31) (hi : i + 6 ≤ L) (hcs : cells + 29 ≤ 600000 ∧ slots + 1060 ≤ 7302250) (hR : R σ τ N) (hw : l_H D cI cJ cS cR adX adM adK adV N (fun q : Nat => s.heap.size ≤ q) s σ τ H locs) (hl : lv_has ls 4 [(0, .ref b), (1, .ref (adX 0)), (2, .ref (adM 0)), (3, .int (nI i))])
    (kk : ∀ (σ' τ' : q_M) (N' : Nat) (adM' : Nat → Nat) (H : Heap) (locs : List Loc) (ls : Array Slot), R σ' τ' N' → l_H D cI cJ cS cR adX adM' adK adV N' (fun q : Nat => s.heap.size ≤ q) s σ' τ' H locs → lv_has ls 4 [(0, .ref b), (1, .ref (adX 0)), (2, .ref (adM' 0)), (3, .int (nI i))] → W p l e room_1 s m #[Value.ref b] below meth c H locs (cells + 29) (slots + 1060) Q (F0 m 1847 ls [])) : W p l e room_1 s m #[Value.ref b] below meth c H locs cells slots Q (F0 m 1450 ls []) := by
  obtain ⟨hx, hb, hml, hown, hts⟩ := id C0
  have hbA : ¬ (fun q : Nat => s.heap.size ≤ q) b := Nat.not_le.mpr hbl
  refine lv_aload_n hx hb dL_law_1450 rfl (lv_at hl 1 rfl) ?_
  obtain ⟨r, σ', τ', h1, h2, hR'⟩ := hop σ τ N  hR
  refine l_callXi hw (va_runV (As := []) (rest := []) C0 (kX8_best h1 _) (cwV 0 hts gL_law_X8_best rfl rfl rfl eL_X8_best ⟨(Nat.le_of_ble_eq_true rfl), (Nat.le_of_ble_eq_true rfl)⟩) ⟨q_blind, q_recv (l_X hw) (xN_0 xF_0) (xE_0 xF_0) rfl, q_pre (l_X hw)⟩ rfl rfl hl.1 rfl (lv_room (Nat.le_of_ble_eq_true rfl)) dL_law_1451 ⟨(show cells + 0 ≤ 600000 by omega), (show slots + 0 ≤ 7302250 by omega)⟩) (fun H locs hw => ?_)
  refine lv_aload_n hx hb dL_law_1454 rfl (lv_at hl 2 rfl) ?_
  refine l_callMi hw (va_runV (As := []) (rest := [.int r]) C0 (kX9_best (hRN _ _ _ hR).1 h2 _) (cwV 0 hts gL_law_X9_best rfl rfl rfl eL_X9_best ⟨(Nat.le_of_ble_eq_true rfl), (Nat.le_of_ble_eq_true rfl)⟩) ⟨q_blind, q_recv (l_M hw) (mN_0 (hRN _ _ _ hR).1) (mE_0 (hRN _ _ _ hR).1) rfl, q_pre (l_M hw)⟩ rfl rfl hl.1 rfl (lv_room (Nat.le_of_ble_eq_true rfl)) dL_law_1455 ⟨(show cells + 0 ≤ 600000 by omega), (show slots + 0 ≤ 7302250 by omega)⟩) (fun H locs hw => ?_)
  refine lv_icmp_eq (tgt := 1847) hx hb dL_law_1458 (by decide) (fun _ => ?_) (fun z => absurd rfl z)
  refine W.widen (k := cells + 29) (n := slots + 1060) (by omega) (by omega) ?_
  exact kk _ _ _ _ _ _ _ hR' hw hl
set_option maxHeartbeats 4000000 in
set_option maxRecDepth 100000 in
theorem lc_helps (hop : Op_helps R) (hRN : ∀ σ τ N, R σ τ N → mB N 0 ∧ N % 29 = 0 ∧ N ≤ 87 ∧ mV N τ) (C0 : CallFix p m c code 4 s #[Value.ref b] wsL_law RL) (hX : va_X b L xs s s.heap) (hbl : b < s.heap.size) (hL : L < 2 ^ 31) (hi : i + 6 ≤ L) (hcs : cells + 29 ≤ 600000 ∧ slots + 1060 ≤ 7302250) (hR : R σ τ N) (hw : l_H D cI cJ cS cR adX adM adK adV N (fun q : Nat => s.heap.size ≤ q) s σ τ H locs) (hl : lv_has ls 4 [(0, .ref b), (1, .ref (adX 0)), (2, .ref (adM 0)), (3, .int (nI i))])
    (kk : ∀ (σ' τ' : q_M) (N' : Nat) (adM' : Nat → Nat) (H : Heap) (locs : List Loc) (ls : Array Slot), R σ' τ' N' → l_H D cI cJ cS cR adX adM' adK adV N' (fun q : Nat => s.heap.size ≤ q) s σ' τ' H locs → lv_has ls 4 [(0, .ref b), (1, .ref (adX 0)), (2, .ref (adM' 0)), (3, .int (nI i))] → W p l e room_1 s m #[Value.ref b] below meth c H locs (cells + 29) (slots + 1060) Q (F0 m 1847 ls [])) : W p l e room_1 s m #[Value.ref b] below meth c H locs cells slots Q (F0 m 1463 ls []) := by
  obtain ⟨hx, hb, hml, hown, hts⟩ := id C0
  have hbA : ¬ (fun q : Nat => s.heap.size ≤ q) b := Nat.not_le.mpr hbl
  refine lv_aload_n hx hb dL_law_1463 rfl (lv_at hl 1 rfl) ?_
  refine lv_aload_n hx hb dL_law_1464 rfl (lv_at hl 0 rfl) ?_
  refine lv_iload_n hx hb dL_law_1465 rfl (lv_at hl 3 rfl) ?_
  refine lv_iconst (v := (1 : Int32)) hx hb dL_law_1466 (by decide) ?_
  refine lv_iadd hx hb dL_law_1467 ?_
  refine l_sld (i := i) (k := 1) C0 hX hbl hbA hw.1.2.2.2.1 (nI_add i 1) (by omega) hL dL_law_1468 ?_
  obtain ⟨r, σ', τ', h1, h2, hR'⟩ := hop σ τ N (xs (i + 1)) hR
  refine l_callXi hw (va_runV (As := [.int (xs (i + 1))]) (rest := []) C0 (kX8_helps h1 _) (cwV 1 hts gL_law_X8_helps rfl rfl rfl eL_X8_helps ⟨(Nat.le_of_ble_eq_true rfl), (Nat.le_of_ble_eq_true rfl)⟩) ⟨q_blind, q_recv (l_X hw) (xN_0 xF_0) (xE_0 xF_0) rfl, q_pre (l_X hw)⟩ rfl rfl hl.1 rfl (lv_room (Nat.le_of_ble_eq_true rfl)) dL_law_1469 ⟨(show cells + 0 ≤ 600000 by omega), (show slots + 0 ≤ 7302250 by omega)⟩) (fun H locs hw => ?_)
  refine lv_aload_n hx hb dL_law_1472 rfl (lv_at hl 2 rfl) ?_
  refine lv_aload_n hx hb dL_law_1473 rfl (lv_at hl 0 rfl) ?_
  refine lv_iload_n hx hb dL_law_1474 rfl (lv_at hl 3 rfl) ?_
  refine lv_iconst (v := (1 : Int32)) hx hb dL_law_1475 (by decide) ?_
  refine lv_iadd hx hb dL_law_1476 ?_
  refine l_sld (i := i) (k := 1) C0 hX hbl hbA hw.1.2.2.2.1 (nI_add i 1) (by omega) hL dL_law_1477 ?_
  refine l_callMi hw (va_runV (As := [.int (xs (i + 1))]) (rest := [.int r]) C0 (kX9_helps (hRN _ _ _ hR).1 h2 _) (cwV 1 hts gL_law_X9_helps rfl rfl rfl eL_X9_helps ⟨(Nat.le_of_ble_eq_true rfl), (Nat.le_of_ble_eq_true rfl)⟩) ⟨q_blind, q_recv (l_M hw) (mN_0 (hRN _ _ _ hR).1) (mE_0 (hRN _ _ _ hR).1) rfl, q_pre (l_M hw)⟩ rfl rfl hl.1 rfl (lv_room (Nat.le_of_ble_eq_true rfl)) dL_law_1478 ⟨(show cells + 0 ≤ 600000 by omega), (show slots + 0 ≤ 7302250 by omega)⟩) (fun H locs hw => ?_)
  refine lv_icmp_eq (tgt := 1847) hx hb dL_law_1481 (by decide) (fun _ => ?_) (fun z => absurd rfl z)
  refine W.widen (k := cells + 29) (n := slots + 1060) (by omega) (by omega) ?_
  exact kk _ _ _ _ _ _ _ hR' hw hl
set_option maxHeartbeats 4000000 in
set_option maxRecDepth 100000 in
theorem lc_slide (hop : Op_slide R) (hRN : ∀ σ τ N, R σ τ N → mB N 0 ∧ N % 29 = 0 ∧ N ≤ 87 ∧ mV N τ) (C0 : CallFix p m c code 4 s #[Value.ref b] wsL_law RL) (hX : va_X b L xs s s.heap) (hbl : b < s.heap.size) (hL : L < 2 ^ 31) (hi : i + 6 ≤ L) (hcs : cells + 29 ≤ 600000 ∧ slots + 1060 ≤ 7302250) (hR : R σ τ N) (hw : l_H D cI cJ cS cR adX adM adK adV N (fun q : Nat => s.heap.size ≤ q) s σ τ H locs) (hl : lv_has ls 4 [(0, .ref b), (1, .ref (adX 0)), (2, .ref (adM 0)), (3, .int (nI i))])
    (kk : ∀ (σ' τ' : q_M) (N' : Nat) (adM' : Nat → Nat) (H : Heap) (locs : List Loc) (ls : Array Slot), R σ' τ' N' → l_H D cI cJ cS cR adX adM' adK adV N' (fun q : Nat => s.heap.size ≤ q) s σ' τ' H locs → lv_has ls 4 [(0, .ref b), (1, .ref (adX 0)), (2, .ref (adM' 0)), (3, .int (nI i))] → W p l e room_1 s m #[Value.ref b] below meth c H locs (cells + 29) (slots + 1060) Q (F0 m 1847 ls [])) : W p l e room_1 s m #[Value.ref b] below meth c H locs cells slots Q (F0 m 1486 ls []) := by
  obtain ⟨hx, hb, hml, hown, hts⟩ := id C0
  have hbA : ¬ (fun q : Nat => s.heap.size ≤ q) b := Nat.not_le.mpr hbl
  refine lv_aload_n hx hb dL_law_1486 rfl (lv_at hl 1 rfl) ?_
  refine lv_aload_n hx hb dL_law_1487 rfl (lv_at hl 0 rfl) ?_
  refine lv_iload_n hx hb dL_law_1488 rfl (lv_at hl 3 rfl) ?_
  refine lv_iconst (v := (1 : Int32)) hx hb dL_law_1489 (by decide) ?_
  refine lv_iadd hx hb dL_law_1490 ?_
  refine l_sld (i := i) (k := 1) C0 hX hbl hbA hw.1.2.2.2.1 (nI_add i 1) (by omega) hL dL_law_1491 ?_
  refine lv_aload_n hx hb dL_law_1492 rfl (lv_at hl 0 rfl) ?_
  refine lv_iload_n hx hb dL_law_1493 rfl (lv_at hl 3 rfl) ?_
  refine lv_iconst (v := (2 : Int32)) hx hb dL_law_1494 (by decide) ?_
  refine lv_iadd hx hb dL_law_1495 ?_
  refine l_sld (i := i) (k := 2) C0 hX hbl hbA hw.1.2.2.2.1 (nI_add i 2) (by omega) hL dL_law_1496 ?_
  refine lv_i2l hx hb dL_law_1497 rfl ?_
  refine lv_bipush (v := (32 : Int32)) hx hb dL_law_1498 (by decide) ?_
  refine lv_lshl (v := (q_shl (xs (i + 2)).toInt64 (32 : Int32))) hx hb dL_law_1500 rfl ?_
  refine lv_aload_n hx hb dL_law_1501 rfl (lv_at hl 0 rfl) ?_
  refine lv_iload_n hx hb dL_law_1502 rfl (lv_at hl 3 rfl) ?_
  refine lv_iconst (v := (3 : Int32)) hx hb dL_law_1503 (by decide) ?_
  refine lv_iadd hx hb dL_law_1504 ?_
  refine l_sld (i := i) (k := 3) C0 hX hbl hbA hw.1.2.2.2.1 (nI_add i 3) (by omega) hL dL_law_1505 ?_
  refine lv_i2l hx hb dL_law_1506 rfl ?_
  refine lv_ldc2 (v := (4294967295 : Int64)) hx hb hown (hts (.constantLong RL 18 (4294967295)) (by decide +kernel)) dL_law_1507 ?_
  refine lv_land hx hb dL_law_1510 ?_
  refine lv_lor hx hb dL_law_1511 ?_
  refine lv_aload_n hx hb dL_law_1512 rfl (lv_at hl 0 rfl) ?_
  refine lv_iload_n hx hb dL_law_1513 rfl (lv_at hl 3 rfl) ?_
  refine lv_iconst (v := (4 : Int32)) hx hb dL_law_1514 (by decide) ?_
  refine lv_iadd hx hb dL_law_1515 ?_
  refine l_sld (i := i) (k := 4) C0 hX hbl hbA hw.1.2.2.2.1 (nI_add i 4) (by omega) hL dL_law_1516 ?_
  obtain ⟨r, σ', τ', h1, h2, hR'⟩ := hop σ τ N (xs (i + 1)) ((q_shl (xs (i + 2)).toInt64 (32 : Int32)) ||| ((xs (i + 3)).toInt64 &&& (4294967295 : Int64))) (xs (i + 4)) hR
  refine l_callXl hw (va_runV (As := [.int (xs (i + 1)), .long ((q_shl (xs (i + 2)).toInt64 (32 : Int32)) ||| ((xs (i + 3)).toInt64 &&& (4294967295 : Int64))), .int (xs (i + 4))]) (rest := []) C0 (kX8_slide h1 _) (cwV 3 hts gL_law_X8_slide rfl rfl rfl eL_X8_slide ⟨(Nat.le_of_ble_eq_true rfl), (Nat.le_of_ble_eq_true rfl)⟩) ⟨q_blind, q_recv (l_X hw) (xN_0 xF_0) (xE_0 xF_0) rfl, q_pre (l_X hw)⟩ rfl rfl hl.1 rfl (lv_room (Nat.le_of_ble_eq_true rfl)) dL_law_1517 ⟨(show cells + 0 ≤ 600000 by omega), (show slots + 0 ≤ 7302250 by omega)⟩) (fun H locs hw => ?_)
  refine lv_aload_n hx hb dL_law_1520 rfl (lv_at hl 2 rfl) ?_
  refine lv_aload_n hx hb dL_law_1521 rfl (lv_at hl 0 rfl) ?_
  refine lv_iload_n hx hb dL_law_1522 rfl (lv_at hl 3 rfl) ?_
  refine lv_iconst (v := (1 : Int32)) hx hb dL_law_1523 (by decide) ?_
  refine lv_iadd hx hb dL_law_1524 ?_
  refine l_sld (i := i) (k := 1) C0 hX hbl hbA hw.1.2.2.2.1 (nI_add i 1) (by omega) hL dL_law_1525 ?_
  refine lv_aload_n hx hb dL_law_1526 rfl (lv_at hl 0 rfl) ?_
  refine lv_iload_n hx hb dL_law_1527 rfl (lv_at hl 3 rfl) ?_
  refine lv_iconst (v := (2 : Int32)) hx hb dL_law_1528 (by decide) ?_
  refine lv_iadd hx hb dL_law_1529 ?_
  refine l_sld (i := i) (k := 2) C0 hX hbl hbA hw.1.2.2.2.1 (nI_add i 2) (by omega) hL dL_law_1530 ?_
  refine lv_i2l hx hb dL_law_1531 rfl ?_
  refine lv_bipush (v := (32 : Int32)) hx hb dL_law_1532 (by decide) ?_
  refine lv_lshl (v := (q_shl (xs (i + 2)).toInt64 (32 : Int32))) hx hb dL_law_1534 rfl ?_
  refine lv_aload_n hx hb dL_law_1535 rfl (lv_at hl 0 rfl) ?_
  refine lv_iload_n hx hb dL_law_1536 rfl (lv_at hl 3 rfl) ?_
  refine lv_iconst (v := (3 : Int32)) hx hb dL_law_1537 (by decide) ?_
  refine lv_iadd hx hb dL_law_1538 ?_
  refine l_sld (i := i) (k := 3) C0 hX hbl hbA hw.1.2.2.2.1 (nI_add i 3) (by omega) hL dL_law_1539 ?_
  refine lv_i2l hx hb dL_law_1540 rfl ?_
  refine lv_ldc2 (v := (4294967295 : Int64)) hx hb hown (hts (.constantLong RL 18 (4294967295)) (by decide +kernel)) dL_law_1541 ?_
  refine lv_land hx hb dL_law_1544 ?_
  refine lv_lor hx hb dL_law_1545 ?_
  refine lv_aload_n hx hb dL_law_1546 rfl (lv_at hl 0 rfl) ?_
  refine lv_iload_n hx hb dL_law_1547 rfl (lv_at hl 3 rfl) ?_
  refine lv_iconst (v := (4 : Int32)) hx hb dL_law_1548 (by decide) ?_
  refine lv_iadd hx hb dL_law_1549 ?_
  refine l_sld (i := i) (k := 4) C0 hX hbl hbA hw.1.2.2.2.1 (nI_add i 4) (by omega) hL dL_law_1550 ?_
  refine l_callMl hw (va_runV (As := [.int (xs (i + 1)), .long ((q_shl (xs (i + 2)).toInt64 (32 : Int32)) ||| ((xs (i + 3)).toInt64 &&& (4294967295 : Int64))), .int (xs (i + 4))]) (rest := [.long r]) C0 (kX9_slide (hRN _ _ _ hR).1 h2 _) (cwV 3 hts gL_law_X9_slide rfl rfl rfl eL_X9_slide ⟨(Nat.le_of_ble_eq_true rfl), (Nat.le_of_ble_eq_true rfl)⟩) ⟨q_blind, q_recv (l_M hw) (mN_0 (hRN _ _ _ hR).1) (mE_0 (hRN _ _ _ hR).1) rfl, q_pre (l_M hw)⟩ rfl rfl hl.1 rfl (lv_room (Nat.le_of_ble_eq_true rfl)) dL_law_1551 ⟨(show cells + 0 ≤ 600000 by omega), (show slots + 0 ≤ 7302250 by omega)⟩) (fun H locs hw => ?_)
  refine q_lcmp_eq (tgt := 1847) C0 dL_law_1554 dL_law_1555 (by decide) (fun _ => ?_) (fun z => absurd rfl z)
  refine W.widen (k := cells + 29) (n := slots + 1060) (by omega) (by omega) ?_
  exact kk _ _ _ _ _ _ _ hR' hw hl
set_option maxHeartbeats 4000000 in
set_option maxRecDepth 100000 in
theorem lc_tunnels (hop : Op_tunnels R) (hRN : ∀ σ τ N, R σ τ N → mB N 0 ∧ N % 29 = 0 ∧ N ≤ 87 ∧ mV N τ) (C0 : CallFix p m c code 4 s #[Value.ref b] wsL_law RL) (hX : va_X b L xs s s.heap) (hbl : b < s.heap.size) (hL : L < 2 ^ 31) (hi : i + 6 ≤ L) (hcs : cells + 29 ≤ 600000 ∧ slots + 1060 ≤ 7302250) (hR : R σ τ N) (hw : l_H D cI cJ cS cR adX adM adK adV N (fun q : Nat => s.heap.size ≤ q) s σ τ H locs) (hl : lv_has ls 4 [(0, .ref b), (1, .ref (adX 0)), (2, .ref (adM 0)), (3, .int (nI i))])
    (kk : ∀ (σ' τ' : q_M) (N' : Nat) (adM' : Nat → Nat) (H : Heap) (locs : List Loc) (ls : Array Slot), R σ' τ' N' → l_H D cI cJ cS cR adX adM' adK adV N' (fun q : Nat => s.heap.size ≤ q) s σ' τ' H locs → lv_has ls 4 [(0, .ref b), (1, .ref (adX 0)), (2, .ref (adM' 0)), (3, .int (nI i))] → W p l e room_1 s m #[Value.ref b] below meth c H locs (cells + 29) (slots + 1060) Q (F0 m 1847 ls [])) : W p l e room_1 s m #[Value.ref b] below meth c H locs cells slots Q (F0 m 1560 ls []) := by
  obtain ⟨hx, hb, hml, hown, hts⟩ := id C0
  have hbA : ¬ (fun q : Nat => s.heap.size ≤ q) b := Nat.not_le.mpr hbl
  refine lv_aload_n hx hb dL_law_1560 rfl (lv_at hl 1 rfl) ?_
  refine lv_aload_n hx hb dL_law_1561 rfl (lv_at hl 0 rfl) ?_
  refine lv_iload_n hx hb dL_law_1562 rfl (lv_at hl 3 rfl) ?_
  refine lv_iconst (v := (1 : Int32)) hx hb dL_law_1563 (by decide) ?_
  refine lv_iadd hx hb dL_law_1564 ?_
  refine l_sld (i := i) (k := 1) C0 hX hbl hbA hw.1.2.2.2.1 (nI_add i 1) (by omega) hL dL_law_1565 ?_
  obtain ⟨r, σ', τ', h1, h2, hR'⟩ := hop σ τ N (xs (i + 1)) hR
  refine l_callXi hw (va_runV (As := [.int (xs (i + 1))]) (rest := []) C0 (kX8_tunnels h1 _) (cwV 1 hts gL_law_X8_tunnels rfl rfl rfl eL_X8_tunnels ⟨(Nat.le_of_ble_eq_true rfl), (Nat.le_of_ble_eq_true rfl)⟩) ⟨q_blind, q_recv (l_X hw) (xN_0 xF_0) (xE_0 xF_0) rfl, q_pre (l_X hw)⟩ rfl rfl hl.1 rfl (lv_room (Nat.le_of_ble_eq_true rfl)) dL_law_1566 ⟨(show cells + 0 ≤ 600000 by omega), (show slots + 0 ≤ 7302250 by omega)⟩) (fun H locs hw => ?_)
  refine lv_aload_n hx hb dL_law_1569 rfl (lv_at hl 2 rfl) ?_
  refine lv_aload_n hx hb dL_law_1570 rfl (lv_at hl 0 rfl) ?_
  refine lv_iload_n hx hb dL_law_1571 rfl (lv_at hl 3 rfl) ?_
  refine lv_iconst (v := (1 : Int32)) hx hb dL_law_1572 (by decide) ?_
  refine lv_iadd hx hb dL_law_1573 ?_
  refine l_sld (i := i) (k := 1) C0 hX hbl hbA hw.1.2.2.2.1 (nI_add i 1) (by omega) hL dL_law_1574 ?_
  refine l_callMi hw (va_runV (As := [.int (xs (i + 1))]) (rest := [.int r]) C0 (kX9_tunnels (hRN _ _ _ hR).1 h2 _) (cwV 1 hts gL_law_X9_tunnels rfl rfl rfl eL_X9_tunnels ⟨(Nat.le_of_ble_eq_true rfl), (Nat.le_of_ble_eq_true rfl)⟩) ⟨q_blind, q_recv (l_M hw) (mN_0 (hRN _ _ _ hR).1) (mE_0 (hRN _ _ _ hR).1) rfl, q_pre (l_M hw)⟩ rfl rfl hl.1 rfl (lv_room (Nat.le_of_ble_eq_true rfl)) dL_law_1575 ⟨(show cells + 0 ≤ 600000 by omega), (show slots + 0 ≤ 7302250 by omega)⟩) (fun H locs hw => ?_)
  refine lv_icmp_eq (tgt := 1847) hx hb dL_law_1578 (by decide) (fun _ => ?_) (fun z => absurd rfl z)
  refine W.widen (k := cells + 29) (n := slots + 1060) (by omega) (by omega) ?_
  exact kk _ _ _ _ _ _ _ hR' hw hl
set_option maxHeartbeats 4000000 in
set_option maxRecDepth 100000 in
theorem lc_needed (hop : Op_needed R) (hRN : ∀ σ τ N, R σ τ N → mB N 0 ∧ N % 29 = 0 ∧ N ≤ 87 ∧ mV N τ) (C0 : CallFix p m c code 4 s #[Value.ref b] wsL_law RL) (hX : va_X b L xs s s.heap) (hbl : b < s.heap.size) (hL : L < 2 ^ 31) (hi : i + 6 ≤ L) (hcs : cells + 29 ≤ 600000 ∧ slots + 1060 ≤ 7302250) (hR : R σ τ N) (hw : l_H D cI cJ cS cR adX adM adK adV N (fun q : Nat => s.heap.size ≤ q) s σ τ H locs) (hl : lv_has ls 4 [(0, .ref b), (1, .ref (adX 0)), (2, .ref (adM 0)), (3, .int (nI i))])
    (kk : ∀ (σ' τ' : q_M) (N' : Nat) (adM' : Nat → Nat) (H : Heap) (locs : List Loc) (ls : Array Slot), R σ' τ' N' → l_H D cI cJ cS cR adX adM' adK adV N' (fun q : Nat => s.heap.size ≤ q) s σ' τ' H locs → lv_has ls 4 [(0, .ref b), (1, .ref (adX 0)), (2, .ref (adM' 0)), (3, .int (nI i))] → W p l e room_1 s m #[Value.ref b] below meth c H locs (cells + 29) (slots + 1060) Q (F0 m 1847 ls [])) : W p l e room_1 s m #[Value.ref b] below meth c H locs cells slots Q (F0 m 1583 ls []) := by
  obtain ⟨hx, hb, hml, hown, hts⟩ := id C0
  have hbA : ¬ (fun q : Nat => s.heap.size ≤ q) b := Nat.not_le.mpr hbl
  refine lv_aload_n hx hb dL_law_1583 rfl (lv_at hl 1 rfl) ?_
  obtain ⟨r, σ', τ', h1, h2, hR'⟩ := hop σ τ N  hR
  refine l_callXl hw (va_runV (As := []) (rest := []) C0 (kX8_needed h1 _) (cwV 0 hts gL_law_X8_needed rfl rfl rfl eL_X8_needed ⟨(Nat.le_of_ble_eq_true rfl), (Nat.le_of_ble_eq_true rfl)⟩) ⟨q_blind, q_recv (l_X hw) (xN_0 xF_0) (xE_0 xF_0) rfl, q_pre (l_X hw)⟩ rfl rfl hl.1 rfl (lv_room (Nat.le_of_ble_eq_true rfl)) dL_law_1584 ⟨(show cells + 0 ≤ 600000 by omega), (show slots + 0 ≤ 7302250 by omega)⟩) (fun H locs hw => ?_)
  refine lv_aload_n hx hb dL_law_1587 rfl (lv_at hl 2 rfl) ?_
  refine l_callMl hw (va_runV (As := []) (rest := [.long r]) C0 (kX9_needed (hRN _ _ _ hR).1 h2 _) (cwV 0 hts gL_law_X9_needed rfl rfl rfl eL_X9_needed ⟨(Nat.le_of_ble_eq_true rfl), (Nat.le_of_ble_eq_true rfl)⟩) ⟨q_blind, q_recv (l_M hw) (mN_0 (hRN _ _ _ hR).1) (mE_0 (hRN _ _ _ hR).1) rfl, q_pre (l_M hw)⟩ rfl rfl hl.1 rfl (lv_room (Nat.le_of_ble_eq_true rfl)) dL_law_1588 ⟨(show cells + 0 ≤ 600000 by omega), (show slots + 0 ≤ 7302250 by omega)⟩) (fun H locs hw => ?_)
  refine q_lcmp_eq (tgt := 1847) C0 dL_law_1591 dL_law_1592 (by decide) (fun _ => ?_) (fun z => absurd rfl z)
  refine W.widen (k := cells + 29) (n := slots + 1060) (by omega) (by omega) ?_
  exact kk _ _ _ _ _ _ _ hR' hw hl
set_option maxHeartbeats 4000000 in
set_option maxRecDepth 100000 in
theorem lc_alike (hop : Op_alike R) (hRN : ∀ σ τ N, R σ τ N → mB N 0 ∧ N % 29 = 0 ∧ N ≤ 87 ∧ mV N τ) (C0 : CallFix p m c code 4 s #[Value.ref b] wsL_law RL) (hX : va_X b L xs s s.heap) (hbl : b < s.heap.size) (hL : L < 2 ^ 31) (hi : i + 6 ≤ L) (hcs : cells + 29 ≤ 600000 ∧ slots + 1060 ≤ 7302250) (hR : R σ τ N) (hw : l_H D cI cJ cS cR adX adM adK adV N (fun q : Nat => s.heap.size ≤ q) s σ τ H locs) (hl : lv_has ls 4 [(0, .ref b), (1, .ref (adX 0)), (2, .ref (adM 0)), (3, .int (nI i))])
    (kk : ∀ (σ' τ' : q_M) (N' : Nat) (adM' : Nat → Nat) (H : Heap) (locs : List Loc) (ls : Array Slot), R σ' τ' N' → l_H D cI cJ cS cR adX adM' adK adV N' (fun q : Nat => s.heap.size ≤ q) s σ' τ' H locs → lv_has ls 4 [(0, .ref b), (1, .ref (adX 0)), (2, .ref (adM' 0)), (3, .int (nI i))] → W p l e room_1 s m #[Value.ref b] below meth c H locs (cells + 29) (slots + 1060) Q (F0 m 1847 ls [])) : W p l e room_1 s m #[Value.ref b] below meth c H locs cells slots Q (F0 m 1597 ls []) := by
  obtain ⟨hx, hb, hml, hown, hts⟩ := id C0
  have hbA : ¬ (fun q : Nat => s.heap.size ≤ q) b := Nat.not_le.mpr hbl
  refine lv_aload_n hx hb dL_law_1597 rfl (lv_at hl 1 rfl) ?_
  obtain ⟨r, σ', τ', h1, h2, hR'⟩ := hop σ τ N  hR
  refine l_callXi hw (va_runV (As := []) (rest := []) C0 (kX8_alike h1 _) (cwV 0 hts gL_law_X8_alike rfl rfl rfl eL_X8_alike ⟨(Nat.le_of_ble_eq_true rfl), (Nat.le_of_ble_eq_true rfl)⟩) ⟨q_blind, q_recv (l_X hw) (xN_0 xF_0) (xE_0 xF_0) rfl, q_pre (l_X hw)⟩ rfl rfl hl.1 rfl (lv_room (Nat.le_of_ble_eq_true rfl)) dL_law_1598 ⟨(show cells + 0 ≤ 600000 by omega), (show slots + 0 ≤ 7302250 by omega)⟩) (fun H locs hw => ?_)
  refine lv_aload_n hx hb dL_law_1601 rfl (lv_at hl 2 rfl) ?_
  refine l_callMi hw (va_runV (As := []) (rest := [.int r]) C0 (kX9_alike (hRN _ _ _ hR).1 h2 _) (cwV 0 hts gL_law_X9_alike rfl rfl rfl eL_X9_alike ⟨(Nat.le_of_ble_eq_true rfl), (Nat.le_of_ble_eq_true rfl)⟩) ⟨q_blind, q_recv (l_M hw) (mN_0 (hRN _ _ _ hR).1) (mE_0 (hRN _ _ _ hR).1) rfl, q_pre (l_M hw)⟩ rfl rfl hl.1 rfl (lv_room (Nat.le_of_ble_eq_true rfl)) dL_law_1602 ⟨(show cells + 0 ≤ 600000 by omega), (show slots + 0 ≤ 7302250 by omega)⟩) (fun H locs hw => ?_)
  refine lv_icmp_eq (tgt := 1847) hx hb dL_law_1605 (by decide) (fun _ => ?_) (fun z => absurd rfl z)
  refine W.widen (k := cells + 29) (n := slots + 1060) (by omega) (by omega) ?_
  exact kk _ _ _ _ _ _ _ hR' hw hl
set_option maxHeartbeats 4000000 in
set_option maxRecDepth 100000 in
theorem lc_mirror (hop : Op_mirror R) (hRN : ∀ σ τ N, R σ τ N → mB N 0 ∧ N % 29 = 0 ∧ N ≤ 87 ∧ mV N τ) (C0 : CallFix p m c code 4 s #[Value.ref b] wsL_law RL) (hX : va_X b L xs s s.heap) (hbl : b < s.heap.size) (hL : L < 2 ^ 31) (hi : i + 6 ≤ L) (hcs : cells + 29 ≤ 600000 ∧ slots + 1060 ≤ 7302250) (hR : R σ τ N) (hw : l_H D cI cJ cS cR adX adM adK adV N (fun q : Nat => s.heap.size ≤ q) s σ τ H locs) (hl : lv_has ls 4 [(0, .ref b), (1, .ref (adX 0)), (2, .ref (adM 0)), (3, .int (nI i))])
    (kk : ∀ (σ' τ' : q_M) (N' : Nat) (adM' : Nat → Nat) (H : Heap) (locs : List Loc) (ls : Array Slot), R σ' τ' N' → l_H D cI cJ cS cR adX adM' adK adV N' (fun q : Nat => s.heap.size ≤ q) s σ' τ' H locs → lv_has ls 4 [(0, .ref b), (1, .ref (adX 0)), (2, .ref (adM' 0)), (3, .int (nI i))] → W p l e room_1 s m #[Value.ref b] below meth c H locs (cells + 29) (slots + 1060) Q (F0 m 1847 ls [])) : W p l e room_1 s m #[Value.ref b] below meth c H locs cells slots Q (F0 m 1610 ls []) := by
  obtain ⟨hx, hb, hml, hown, hts⟩ := id C0
  have hbA : ¬ (fun q : Nat => s.heap.size ≤ q) b := Nat.not_le.mpr hbl
  refine lv_aload_n hx hb dL_law_1610 rfl (lv_at hl 1 rfl) ?_
  refine lv_aload_n hx hb dL_law_1611 rfl (lv_at hl 0 rfl) ?_
  refine lv_iload_n hx hb dL_law_1612 rfl (lv_at hl 3 rfl) ?_
  refine lv_iconst (v := (1 : Int32)) hx hb dL_law_1613 (by decide) ?_
  refine lv_iadd hx hb dL_law_1614 ?_
  refine l_sld (i := i) (k := 1) C0 hX hbl hbA hw.1.2.2.2.1 (nI_add i 1) (by omega) hL dL_law_1615 ?_
  obtain ⟨r, σ', τ', h1, h2, hR'⟩ := hop σ τ N (xs (i + 1)) hR
  refine l_callXi hw (va_runV (As := [.int (xs (i + 1))]) (rest := []) C0 (kX8_mirror h1 _) (cwV 1 hts gL_law_X8_mirror rfl rfl rfl eL_X8_mirror ⟨(Nat.le_of_ble_eq_true rfl), (Nat.le_of_ble_eq_true rfl)⟩) ⟨q_blind, q_recv (l_X hw) (xN_0 xF_0) (xE_0 xF_0) rfl, q_pre (l_X hw)⟩ rfl rfl hl.1 rfl (lv_room (Nat.le_of_ble_eq_true rfl)) dL_law_1616 ⟨(show cells + 0 ≤ 600000 by omega), (show slots + 0 ≤ 7302250 by omega)⟩) (fun H locs hw => ?_)
  refine lv_aload_n hx hb dL_law_1619 rfl (lv_at hl 2 rfl) ?_
  refine lv_aload_n hx hb dL_law_1620 rfl (lv_at hl 0 rfl) ?_
  refine lv_iload_n hx hb dL_law_1621 rfl (lv_at hl 3 rfl) ?_
  refine lv_iconst (v := (1 : Int32)) hx hb dL_law_1622 (by decide) ?_
  refine lv_iadd hx hb dL_law_1623 ?_
  refine l_sld (i := i) (k := 1) C0 hX hbl hbA hw.1.2.2.2.1 (nI_add i 1) (by omega) hL dL_law_1624 ?_
  refine l_callMi hw (va_runV (As := [.int (xs (i + 1))]) (rest := [.int r]) C0 (kX9_mirror (hRN _ _ _ hR).1 h2 _) (cwV 1 hts gL_law_X9_mirror rfl rfl rfl eL_X9_mirror ⟨(Nat.le_of_ble_eq_true rfl), (Nat.le_of_ble_eq_true rfl)⟩) ⟨q_blind, q_recv (l_M hw) (mN_0 (hRN _ _ _ hR).1) (mE_0 (hRN _ _ _ hR).1) rfl, q_pre (l_M hw)⟩ rfl rfl hl.1 rfl (lv_room (Nat.le_of_ble_eq_true rfl)) dL_law_1625 ⟨(show cells + 0 ≤ 600000 by omega), (show slots + 0 ≤ 7302250 by omega)⟩) (fun H locs hw => ?_)
  refine lv_icmp_eq (tgt := 1847) hx hb dL_law_1628 (by decide) (fun _ => ?_) (fun z => absurd rfl z)
  refine W.widen (k := cells + 29) (n := slots + 1060) (by omega) (by omega) ?_
  exact kk _ _ _ _ _ _ _ hR' hw hl
set_option maxHeartbeats 4000000 in
set_option maxRecDepth 100000 in
theorem lc_turn (hop : Op_turn R) (hRN : ∀ σ τ N, R σ τ N → mB N 0 ∧ N % 29 = 0 ∧ N ≤ 87 ∧ mV N τ) (C0 : CallFix p m c code 4 s #[Value.ref b] wsL_law RL) (hX : va_X b L xs s s.heap) (hbl : b < s.heap.size) (hL : L < 2 ^ 31) (hi : i + 6 ≤ L) (hcs : cells + 29 ≤ 600000 ∧ slots + 1060 ≤ 7302250) (hR : R σ τ N) (hw : l_H D cI cJ cS cR adX adM adK adV N (fun q : Nat => s.heap.size ≤ q) s σ τ H locs) (hl : lv_has ls 4 [(0, .ref b), (1, .ref (adX 0)), (2, .ref (adM 0)), (3, .int (nI i))])
    (kk : ∀ (σ' τ' : q_M) (N' : Nat) (adM' : Nat → Nat) (H : Heap) (locs : List Loc) (ls : Array Slot), R σ' τ' N' → l_H D cI cJ cS cR adX adM' adK adV N' (fun q : Nat => s.heap.size ≤ q) s σ' τ' H locs → lv_has ls 4 [(0, .ref b), (1, .ref (adX 0)), (2, .ref (adM' 0)), (3, .int (nI i))] → W p l e room_1 s m #[Value.ref b] below meth c H locs (cells + 29) (slots + 1060) Q (F0 m 1847 ls [])) : W p l e room_1 s m #[Value.ref b] below meth c H locs cells slots Q (F0 m 1633 ls []) := by
  obtain ⟨hx, hb, hml, hown, hts⟩ := id C0
  have hbA : ¬ (fun q : Nat => s.heap.size ≤ q) b := Nat.not_le.mpr hbl
  refine lv_aload_n hx hb dL_law_1633 rfl (lv_at hl 1 rfl) ?_
  refine lv_aload_n hx hb dL_law_1634 rfl (lv_at hl 0 rfl) ?_
  refine lv_iload_n hx hb dL_law_1635 rfl (lv_at hl 3 rfl) ?_
  refine lv_iconst (v := (1 : Int32)) hx hb dL_law_1636 (by decide) ?_
  refine lv_iadd hx hb dL_law_1637 ?_
  refine l_sld (i := i) (k := 1) C0 hX hbl hbA hw.1.2.2.2.1 (nI_add i 1) (by omega) hL dL_law_1638 ?_
  obtain ⟨r, σ', τ', h1, h2, hR'⟩ := hop σ τ N (xs (i + 1)) hR
  refine l_callXi hw (va_runV (As := [.int (xs (i + 1))]) (rest := []) C0 (kX8_turn h1 _) (cwV 1 hts gL_law_X8_turn rfl rfl rfl eL_X8_turn ⟨(Nat.le_of_ble_eq_true rfl), (Nat.le_of_ble_eq_true rfl)⟩) ⟨q_blind, q_recv (l_X hw) (xN_0 xF_0) (xE_0 xF_0) rfl, q_pre (l_X hw)⟩ rfl rfl hl.1 rfl (lv_room (Nat.le_of_ble_eq_true rfl)) dL_law_1639 ⟨(show cells + 0 ≤ 600000 by omega), (show slots + 0 ≤ 7302250 by omega)⟩) (fun H locs hw => ?_)
  refine lv_aload_n hx hb dL_law_1642 rfl (lv_at hl 2 rfl) ?_
  refine lv_aload_n hx hb dL_law_1643 rfl (lv_at hl 0 rfl) ?_
  refine lv_iload_n hx hb dL_law_1644 rfl (lv_at hl 3 rfl) ?_
  refine lv_iconst (v := (1 : Int32)) hx hb dL_law_1645 (by decide) ?_
  refine lv_iadd hx hb dL_law_1646 ?_
  refine l_sld (i := i) (k := 1) C0 hX hbl hbA hw.1.2.2.2.1 (nI_add i 1) (by omega) hL dL_law_1647 ?_
  refine l_callMi hw (va_runV (As := [.int (xs (i + 1))]) (rest := [.int r]) C0 (kX9_turn (hRN _ _ _ hR).1 h2 _) (cwV 1 hts gL_law_X9_turn rfl rfl rfl eL_X9_turn ⟨(Nat.le_of_ble_eq_true rfl), (Nat.le_of_ble_eq_true rfl)⟩) ⟨q_blind, q_recv (l_M hw) (mN_0 (hRN _ _ _ hR).1) (mE_0 (hRN _ _ _ hR).1) rfl, q_pre (l_M hw)⟩ rfl rfl hl.1 rfl (lv_room (Nat.le_of_ble_eq_true rfl)) dL_law_1648 ⟨(show cells + 0 ≤ 600000 by omega), (show slots + 0 ≤ 7302250 by omega)⟩) (fun H locs hw => ?_)
  refine lv_icmp_eq (tgt := 1847) hx hb dL_law_1651 (by decide) (fun _ => ?_) (fun z => absurd rfl z)
  refine W.widen (k := cells + 29) (n := slots + 1060) (by omega) (by omega) ?_
  exact kk _ _ _ _ _ _ _ hR' hw hl
set_option maxHeartbeats 4000000 in
set_option maxRecDepth 100000 in
theorem lc_thin (hop : Op_thin R) (hRN : ∀ σ τ N, R σ τ N → mB N 0 ∧ N % 29 = 0 ∧ N ≤ 87 ∧ mV N τ) (C0 : CallFix p m c code 4 s #[Value.ref b] wsL_law RL) (hX : va_X b L xs s s.heap) (hbl : b < s.heap.size) (hL : L < 2 ^ 31) (hi : i + 6 ≤ L) (hcs : cells + 29 ≤ 600000 ∧ slots + 1060 ≤ 7302250) (hR : R σ τ N) (hw : l_H D cI cJ cS cR adX adM adK adV N (fun q : Nat => s.heap.size ≤ q) s σ τ H locs) (hl : lv_has ls 4 [(0, .ref b), (1, .ref (adX 0)), (2, .ref (adM 0)), (3, .int (nI i))])
    (kk : ∀ (σ' τ' : q_M) (N' : Nat) (adM' : Nat → Nat) (H : Heap) (locs : List Loc) (ls : Array Slot), R σ' τ' N' → l_H D cI cJ cS cR adX adM' adK adV N' (fun q : Nat => s.heap.size ≤ q) s σ' τ' H locs → lv_has ls 4 [(0, .ref b), (1, .ref (adX 0)), (2, .ref (adM' 0)), (3, .int (nI i))] → W p l e room_1 s m #[Value.ref b] below meth c H locs (cells + 29) (slots + 1060) Q (F0 m 1847 ls [])) : W p l e room_1 s m #[Value.ref b] below meth c H locs cells slots Q (F0 m 1656 ls []) := by
  obtain ⟨hx, hb, hml, hown, hts⟩ := id C0
  have hbA : ¬ (fun q : Nat => s.heap.size ≤ q) b := Nat.not_le.mpr hbl
  refine lv_aload_n hx hb dL_law_1656 rfl (lv_at hl 1 rfl) ?_
  refine lv_aload_n hx hb dL_law_1657 rfl (lv_at hl 0 rfl) ?_
  refine lv_iload_n hx hb dL_law_1658 rfl (lv_at hl 3 rfl) ?_
  refine lv_iconst (v := (1 : Int32)) hx hb dL_law_1659 (by decide) ?_
  refine lv_iadd hx hb dL_law_1660 ?_
  refine l_sld (i := i) (k := 1) C0 hX hbl hbA hw.1.2.2.2.1 (nI_add i 1) (by omega) hL dL_law_1661 ?_
  refine lv_aload_n hx hb dL_law_1662 rfl (lv_at hl 0 rfl) ?_
  refine lv_iload_n hx hb dL_law_1663 rfl (lv_at hl 3 rfl) ?_
  refine lv_iconst (v := (2 : Int32)) hx hb dL_law_1664 (by decide) ?_
  refine lv_iadd hx hb dL_law_1665 ?_
  refine l_sld (i := i) (k := 2) C0 hX hbl hbA hw.1.2.2.2.1 (nI_add i 2) (by omega) hL dL_law_1666 ?_
  obtain ⟨r, σ', τ', h1, h2, hR'⟩ := hop σ τ N (xs (i + 1)) (xs (i + 2)) hR
  refine l_callXi hw (va_runV (As := [.int (xs (i + 1)), .int (xs (i + 2))]) (rest := []) C0 (kX8_thin h1 _) (cwV 2 hts gL_law_X8_thin rfl rfl rfl eL_X8_thin ⟨(Nat.le_of_ble_eq_true rfl), (Nat.le_of_ble_eq_true rfl)⟩) ⟨q_blind, q_recv (l_X hw) (xN_0 xF_0) (xE_0 xF_0) rfl, q_pre (l_X hw)⟩ rfl rfl hl.1 rfl (lv_room (Nat.le_of_ble_eq_true rfl)) dL_law_1667 ⟨(show cells + 0 ≤ 600000 by omega), (show slots + 0 ≤ 7302250 by omega)⟩) (fun H locs hw => ?_)
  refine lv_aload_n hx hb dL_law_1670 rfl (lv_at hl 2 rfl) ?_
  refine lv_aload_n hx hb dL_law_1671 rfl (lv_at hl 0 rfl) ?_
  refine lv_iload_n hx hb dL_law_1672 rfl (lv_at hl 3 rfl) ?_
  refine lv_iconst (v := (1 : Int32)) hx hb dL_law_1673 (by decide) ?_
  refine lv_iadd hx hb dL_law_1674 ?_
  refine l_sld (i := i) (k := 1) C0 hX hbl hbA hw.1.2.2.2.1 (nI_add i 1) (by omega) hL dL_law_1675 ?_
  refine lv_aload_n hx hb dL_law_1676 rfl (lv_at hl 0 rfl) ?_
  refine lv_iload_n hx hb dL_law_1677 rfl (lv_at hl 3 rfl) ?_
  refine lv_iconst (v := (2 : Int32)) hx hb dL_law_1678 (by decide) ?_
  refine lv_iadd hx hb dL_law_1679 ?_
  refine l_sld (i := i) (k := 2) C0 hX hbl hbA hw.1.2.2.2.1 (nI_add i 2) (by omega) hL dL_law_1680 ?_
  refine l_callMi hw (va_runV (As := [.int (xs (i + 1)), .int (xs (i + 2))]) (rest := [.int r]) C0 (kX9_thin (hRN _ _ _ hR).1 h2 _) (cwV 2 hts gL_law_X9_thin rfl rfl rfl eL_X9_thin ⟨(Nat.le_of_ble_eq_true rfl), (Nat.le_of_ble_eq_true rfl)⟩) ⟨q_blind, q_recv (l_M hw) (mN_0 (hRN _ _ _ hR).1) (mE_0 (hRN _ _ _ hR).1) rfl, q_pre (l_M hw)⟩ rfl rfl hl.1 rfl (lv_room (Nat.le_of_ble_eq_true rfl)) dL_law_1681 ⟨(show cells + 0 ≤ 600000 by omega), (show slots + 0 ≤ 7302250 by omega)⟩) (fun H locs hw => ?_)
  refine lv_icmp_eq (tgt := 1847) hx hb dL_law_1684 (by decide) (fun _ => ?_) (fun z => absurd rfl z)
  refine W.widen (k := cells + 29) (n := slots + 1060) (by omega) (by omega) ?_
  exact kk _ _ _ _ _ _ _ hR' hw hl
set_option maxHeartbeats 4000000 in
set_option maxRecDepth 100000 in
theorem lc_spare (hop : Op_spare R) (hRN : ∀ σ τ N, R σ τ N → mB N 0 ∧ N % 29 = 0 ∧ N ≤ 87 ∧ mV N τ) (C0 : CallFix p m c code 4 s #[Value.ref b] wsL_law RL) (hX : va_X b L xs s s.heap) (hbl : b < s.heap.size) (hL : L < 2 ^ 31) (hi : i + 6 ≤ L) (hcs : cells + 29 ≤ 600000 ∧ slots + 1060 ≤ 7302250) (hR : R σ τ N) (hw : l_H D cI cJ cS cR adX adM adK adV N (fun q : Nat => s.heap.size ≤ q) s σ τ H locs) (hl : lv_has ls 4 [(0, .ref b), (1, .ref (adX 0)), (2, .ref (adM 0)), (3, .int (nI i))])
    (kk : ∀ (σ' τ' : q_M) (N' : Nat) (adM' : Nat → Nat) (H : Heap) (locs : List Loc) (ls : Array Slot), R σ' τ' N' → l_H D cI cJ cS cR adX adM' adK adV N' (fun q : Nat => s.heap.size ≤ q) s σ' τ' H locs → lv_has ls 4 [(0, .ref b), (1, .ref (adX 0)), (2, .ref (adM' 0)), (3, .int (nI i))] → W p l e room_1 s m #[Value.ref b] below meth c H locs (cells + 29) (slots + 1060) Q (F0 m 1847 ls [])) : W p l e room_1 s m #[Value.ref b] below meth c H locs cells slots Q (F0 m 1689 ls []) := by
  obtain ⟨hx, hb, hml, hown, hts⟩ := id C0
  have hbA : ¬ (fun q : Nat => s.heap.size ≤ q) b := Nat.not_le.mpr hbl
  refine lv_aload_n hx hb dL_law_1689 rfl (lv_at hl 1 rfl) ?_
  refine lv_aload_n hx hb dL_law_1690 rfl (lv_at hl 0 rfl) ?_
  refine lv_iload_n hx hb dL_law_1691 rfl (lv_at hl 3 rfl) ?_
  refine lv_iconst (v := (1 : Int32)) hx hb dL_law_1692 (by decide) ?_
  refine lv_iadd hx hb dL_law_1693 ?_
  refine l_sld (i := i) (k := 1) C0 hX hbl hbA hw.1.2.2.2.1 (nI_add i 1) (by omega) hL dL_law_1694 ?_
  obtain ⟨r, σ', τ', h1, h2, hR'⟩ := hop σ τ N (xs (i + 1)) hR
  refine l_callXl hw (va_runV (As := [.int (xs (i + 1))]) (rest := []) C0 (kX8_spare h1 _) (cwV 1 hts gL_law_X8_spare rfl rfl rfl eL_X8_spare ⟨(Nat.le_of_ble_eq_true rfl), (Nat.le_of_ble_eq_true rfl)⟩) ⟨q_blind, q_recv (l_X hw) (xN_0 xF_0) (xE_0 xF_0) rfl, q_pre (l_X hw)⟩ rfl rfl hl.1 rfl (lv_room (Nat.le_of_ble_eq_true rfl)) dL_law_1695 ⟨(show cells + 0 ≤ 600000 by omega), (show slots + 0 ≤ 7302250 by omega)⟩) (fun H locs hw => ?_)
  refine lv_aload_n hx hb dL_law_1698 rfl (lv_at hl 2 rfl) ?_
  refine lv_aload_n hx hb dL_law_1699 rfl (lv_at hl 0 rfl) ?_
  refine lv_iload_n hx hb dL_law_1700 rfl (lv_at hl 3 rfl) ?_
  refine lv_iconst (v := (1 : Int32)) hx hb dL_law_1701 (by decide) ?_
  refine lv_iadd hx hb dL_law_1702 ?_
  refine l_sld (i := i) (k := 1) C0 hX hbl hbA hw.1.2.2.2.1 (nI_add i 1) (by omega) hL dL_law_1703 ?_
  refine l_callMl hw (va_runV (As := [.int (xs (i + 1))]) (rest := [.long r]) C0 (kX9_spare (hRN _ _ _ hR).1 h2 _) (cwV 1 hts gL_law_X9_spare rfl rfl rfl eL_X9_spare ⟨(Nat.le_of_ble_eq_true rfl), (Nat.le_of_ble_eq_true rfl)⟩) ⟨q_blind, q_recv (l_M hw) (mN_0 (hRN _ _ _ hR).1) (mE_0 (hRN _ _ _ hR).1) rfl, q_pre (l_M hw)⟩ rfl rfl hl.1 rfl (lv_room (Nat.le_of_ble_eq_true rfl)) dL_law_1704 ⟨(show cells + 0 ≤ 600000 by omega), (show slots + 0 ≤ 7302250 by omega)⟩) (fun H locs hw => ?_)
  refine q_lcmp_eq (tgt := 1847) C0 dL_law_1707 dL_law_1708 (by decide) (fun _ => ?_) (fun z => absurd rfl z)
  refine W.widen (k := cells + 29) (n := slots + 1060) (by omega) (by omega) ?_
  exact kk _ _ _ _ _ _ _ hR' hw hl
set_option maxHeartbeats 4000000 in
set_option maxRecDepth 100000 in
theorem lc_grow (hop : Op_grow R) (hRN : ∀ σ τ N, R σ τ N → mB N 0 ∧ N % 29 = 0 ∧ N ≤ 87 ∧ mV N τ) (C0 : CallFix p m c code 4 s #[Value.ref b] wsL_law RL) (hX : va_X b L xs s s.heap) (hbl : b < s.heap.size) (hL : L < 2 ^ 31) (hi : i + 6 ≤ L) (hcs : cells + 29 ≤ 600000 ∧ slots + 1060 ≤ 7302250) (hR : R σ τ N) (hw : l_H D cI cJ cS cR adX adM adK adV N (fun q : Nat => s.heap.size ≤ q) s σ τ H locs) (hl : lv_has ls 4 [(0, .ref b), (1, .ref (adX 0)), (2, .ref (adM 0)), (3, .int (nI i))])
    (kk : ∀ (σ' τ' : q_M) (N' : Nat) (adM' : Nat → Nat) (H : Heap) (locs : List Loc) (ls : Array Slot), R σ' τ' N' → l_H D cI cJ cS cR adX adM' adK adV N' (fun q : Nat => s.heap.size ≤ q) s σ' τ' H locs → lv_has ls 4 [(0, .ref b), (1, .ref (adX 0)), (2, .ref (adM' 0)), (3, .int (nI i))] → W p l e room_1 s m #[Value.ref b] below meth c H locs (cells + 29) (slots + 1060) Q (F0 m 1847 ls [])) : W p l e room_1 s m #[Value.ref b] below meth c H locs cells slots Q (F0 m 1713 ls []) := by
  obtain ⟨hx, hb, hml, hown, hts⟩ := id C0
  have hbA : ¬ (fun q : Nat => s.heap.size ≤ q) b := Nat.not_le.mpr hbl
  refine lv_aload_n hx hb dL_law_1713 rfl (lv_at hl 1 rfl) ?_
  refine lv_aload_n hx hb dL_law_1714 rfl (lv_at hl 0 rfl) ?_
  refine lv_iload_n hx hb dL_law_1715 rfl (lv_at hl 3 rfl) ?_
  refine lv_iconst (v := (1 : Int32)) hx hb dL_law_1716 (by decide) ?_
  refine lv_iadd hx hb dL_law_1717 ?_
  refine l_sld (i := i) (k := 1) C0 hX hbl hbA hw.1.2.2.2.1 (nI_add i 1) (by omega) hL dL_law_1718 ?_
  obtain ⟨r, σ', τ', h1, h2, hR'⟩ := hop σ τ N (xs (i + 1)) hR
  refine l_callXi hw (va_runV (As := [.int (xs (i + 1))]) (rest := []) C0 (kX8_grow h1 _) (cwV 1 hts gL_law_X8_grow rfl rfl rfl eL_X8_grow ⟨(Nat.le_of_ble_eq_true rfl), (Nat.le_of_ble_eq_true rfl)⟩) ⟨q_blind, q_recv (l_X hw) (xN_0 xF_0) (xE_0 xF_0) rfl, q_pre (l_X hw)⟩ rfl rfl hl.1 rfl (lv_room (Nat.le_of_ble_eq_true rfl)) dL_law_1719 ⟨(show cells + 0 ≤ 600000 by omega), (show slots + 0 ≤ 7302250 by omega)⟩) (fun H locs hw => ?_)
  refine lv_aload_n hx hb dL_law_1722 rfl (lv_at hl 2 rfl) ?_
  refine lv_aload_n hx hb dL_law_1723 rfl (lv_at hl 0 rfl) ?_
  refine lv_iload_n hx hb dL_law_1724 rfl (lv_at hl 3 rfl) ?_
  refine lv_iconst (v := (1 : Int32)) hx hb dL_law_1725 (by decide) ?_
  refine lv_iadd hx hb dL_law_1726 ?_
  refine l_sld (i := i) (k := 1) C0 hX hbl hbA hw.1.2.2.2.1 (nI_add i 1) (by omega) hL dL_law_1727 ?_
  refine l_callMi hw (va_runV (As := [.int (xs (i + 1))]) (rest := [.int r]) C0 (kX9_grow (hRN _ _ _ hR).1 h2 _) (cwV 1 hts gL_law_X9_grow rfl rfl rfl eL_X9_grow ⟨(Nat.le_of_ble_eq_true rfl), (Nat.le_of_ble_eq_true rfl)⟩) ⟨q_blind, q_recv (l_M hw) (mN_0 (hRN _ _ _ hR).1) (mE_0 (hRN _ _ _ hR).1) rfl, q_pre (l_M hw)⟩ rfl rfl hl.1 rfl (lv_room (Nat.le_of_ble_eq_true rfl)) dL_law_1728 ⟨(show cells + 0 ≤ 600000 by omega), (show slots + 0 ≤ 7302250 by omega)⟩) (fun H locs hw => ?_)
  refine lv_icmp_eq (tgt := 1847) hx hb dL_law_1731 (by decide) (fun _ => ?_) (fun z => absurd rfl z)
  refine W.widen (k := cells + 29) (n := slots + 1060) (by omega) (by omega) ?_
  exact kk _ _ _ _ _ _ _ hR' hw hl
set_option maxHeartbeats 4000000 in
set_option maxRecDepth 100000 in
theorem lc_faces (hop : Op_faces R) (hRN : ∀ σ τ N, R σ τ N → mB N 0 ∧ N % 29 = 0 ∧ N ≤ 87 ∧ mV N τ) (C0 : CallFix p m c code 4 s #[Value.ref b] wsL_law RL) (hX : va_X b L xs s s.heap) (hbl : b < s.heap.size) (hL : L < 2 ^ 31) (hi : i + 6 ≤ L) (hcs : cells + 29 ≤ 600000 ∧ slots + 1060 ≤ 7302250) (hR : R σ τ N) (hw : l_H D cI cJ cS cR adX adM adK adV N (fun q : Nat => s.heap.size ≤ q) s σ τ H locs) (hl : lv_has ls 4 [(0, .ref b), (1, .ref (adX 0)), (2, .ref (adM 0)), (3, .int (nI i))])
    (kk : ∀ (σ' τ' : q_M) (N' : Nat) (adM' : Nat → Nat) (H : Heap) (locs : List Loc) (ls : Array Slot), R σ' τ' N' → l_H D cI cJ cS cR adX adM' adK adV N' (fun q : Nat => s.heap.size ≤ q) s σ' τ' H locs → lv_has ls 4 [(0, .ref b), (1, .ref (adX 0)), (2, .ref (adM' 0)), (3, .int (nI i))] → W p l e room_1 s m #[Value.ref b] below meth c H locs (cells + 29) (slots + 1060) Q (F0 m 1847 ls [])) : W p l e room_1 s m #[Value.ref b] below meth c H locs cells slots Q (F0 m 1736 ls []) := by
  obtain ⟨hx, hb, hml, hown, hts⟩ := id C0
  have hbA : ¬ (fun q : Nat => s.heap.size ≤ q) b := Nat.not_le.mpr hbl
  refine lv_aload_n hx hb dL_law_1736 rfl (lv_at hl 1 rfl) ?_
  refine lv_aload_n hx hb dL_law_1737 rfl (lv_at hl 0 rfl) ?_
  refine lv_iload_n hx hb dL_law_1738 rfl (lv_at hl 3 rfl) ?_
  refine lv_iconst (v := (1 : Int32)) hx hb dL_law_1739 (by decide) ?_
  refine lv_iadd hx hb dL_law_1740 ?_
  refine l_sld (i := i) (k := 1) C0 hX hbl hbA hw.1.2.2.2.1 (nI_add i 1) (by omega) hL dL_law_1741 ?_
  obtain ⟨r, σ', τ', h1, h2, hR'⟩ := hop σ τ N (xs (i + 1)) hR
  refine l_callXi hw (va_runV (As := [.int (xs (i + 1))]) (rest := []) C0 (kX8_faces h1 _) (cwV 1 hts gL_law_X8_faces rfl rfl rfl eL_X8_faces ⟨(Nat.le_of_ble_eq_true rfl), (Nat.le_of_ble_eq_true rfl)⟩) ⟨q_blind, q_recv (l_X hw) (xN_0 xF_0) (xE_0 xF_0) rfl, q_pre (l_X hw)⟩ rfl rfl hl.1 rfl (lv_room (Nat.le_of_ble_eq_true rfl)) dL_law_1742 ⟨(show cells + 0 ≤ 600000 by omega), (show slots + 0 ≤ 7302250 by omega)⟩) (fun H locs hw => ?_)
  refine lv_aload_n hx hb dL_law_1745 rfl (lv_at hl 2 rfl) ?_
  refine lv_aload_n hx hb dL_law_1746 rfl (lv_at hl 0 rfl) ?_
  refine lv_iload_n hx hb dL_law_1747 rfl (lv_at hl 3 rfl) ?_
  refine lv_iconst (v := (1 : Int32)) hx hb dL_law_1748 (by decide) ?_
  refine lv_iadd hx hb dL_law_1749 ?_
  refine l_sld (i := i) (k := 1) C0 hX hbl hbA hw.1.2.2.2.1 (nI_add i 1) (by omega) hL dL_law_1750 ?_
  refine l_callMi hw (va_runV (As := [.int (xs (i + 1))]) (rest := [.int r]) C0 (kX9_faces (hRN _ _ _ hR).1 h2 _) (cwV 1 hts gL_law_X9_faces rfl rfl rfl eL_X9_faces ⟨(Nat.le_of_ble_eq_true rfl), (Nat.le_of_ble_eq_true rfl)⟩) ⟨q_blind, q_recv (l_M hw) (mN_0 (hRN _ _ _ hR).1) (mE_0 (hRN _ _ _ hR).1) rfl, q_pre (l_M hw)⟩ rfl rfl hl.1 rfl (lv_room (Nat.le_of_ble_eq_true rfl)) dL_law_1751 ⟨(show cells + 0 ≤ 600000 by omega), (show slots + 0 ≤ 7302250 by omega)⟩) (fun H locs hw => ?_)
  refine lv_icmp_eq (tgt := 1847) hx hb dL_law_1754 (by decide) (fun _ => ?_) (fun z => absurd rfl z)
  refine W.widen (k := cells + 29) (n := slots + 1060) (by omega) (by omega) ?_
  exact kk _ _ _ _ _ _ _ hR' hw hl
set_option maxHeartbeats 4000000 in
set_option maxRecDepth 100000 in
theorem lc_casts (hop : Op_casts R) (hRN : ∀ σ τ N, R σ τ N → mB N 0 ∧ N % 29 = 0 ∧ N ≤ 87 ∧ mV N τ) (C0 : CallFix p m c code 4 s #[Value.ref b] wsL_law RL) (hX : va_X b L xs s s.heap) (hbl : b < s.heap.size) (hL : L < 2 ^ 31) (hi : i + 6 ≤ L) (hcs : cells + 29 ≤ 600000 ∧ slots + 1060 ≤ 7302250) (hR : R σ τ N) (hw : l_H D cI cJ cS cR adX adM adK adV N (fun q : Nat => s.heap.size ≤ q) s σ τ H locs) (hl : lv_has ls 4 [(0, .ref b), (1, .ref (adX 0)), (2, .ref (adM 0)), (3, .int (nI i))])
    (kk : ∀ (σ' τ' : q_M) (N' : Nat) (adM' : Nat → Nat) (H : Heap) (locs : List Loc) (ls : Array Slot), R σ' τ' N' → l_H D cI cJ cS cR adX adM' adK adV N' (fun q : Nat => s.heap.size ≤ q) s σ' τ' H locs → lv_has ls 4 [(0, .ref b), (1, .ref (adX 0)), (2, .ref (adM' 0)), (3, .int (nI i))] → W p l e room_1 s m #[Value.ref b] below meth c H locs (cells + 29) (slots + 1060) Q (F0 m 1847 ls [])) : W p l e room_1 s m #[Value.ref b] below meth c H locs cells slots Q (F0 m 1759 ls []) := by
  obtain ⟨hx, hb, hml, hown, hts⟩ := id C0
  have hbA : ¬ (fun q : Nat => s.heap.size ≤ q) b := Nat.not_le.mpr hbl
  refine lv_aload_n hx hb dL_law_1759 rfl (lv_at hl 1 rfl) ?_
  obtain ⟨r, σ', τ', h1, h2, hR'⟩ := hop σ τ N  hR
  refine l_callXi hw (va_runV (As := []) (rest := []) C0 (kX8_casts h1 _) (cwV 0 hts gL_law_X8_casts rfl rfl rfl eL_X8_casts ⟨(Nat.le_of_ble_eq_true rfl), (Nat.le_of_ble_eq_true rfl)⟩) ⟨q_blind, q_recv (l_X hw) (xN_0 xF_0) (xE_0 xF_0) rfl, q_pre (l_X hw)⟩ rfl rfl hl.1 rfl (lv_room (Nat.le_of_ble_eq_true rfl)) dL_law_1760 ⟨(show cells + 0 ≤ 600000 by omega), (show slots + 0 ≤ 7302250 by omega)⟩) (fun H locs hw => ?_)
  refine lv_aload_n hx hb dL_law_1763 rfl (lv_at hl 2 rfl) ?_
  refine l_callMi hw (va_runV (As := []) (rest := [.int r]) C0 (kX9_casts (hRN _ _ _ hR).1 h2 _) (cwV 0 hts gL_law_X9_casts rfl rfl rfl eL_X9_casts ⟨(Nat.le_of_ble_eq_true rfl), (Nat.le_of_ble_eq_true rfl)⟩) ⟨q_blind, q_recv (l_M hw) (mN_0 (hRN _ _ _ hR).1) (mE_0 (hRN _ _ _ hR).1) rfl, q_pre (l_M hw)⟩ rfl rfl hl.1 rfl (lv_room (Nat.le_of_ble_eq_true rfl)) dL_law_1764 ⟨(show cells + 0 ≤ 600000 by omega), (show slots + 0 ≤ 7302250 by omega)⟩) (fun H locs hw => ?_)
  refine lv_icmp_eq (tgt := 1847) hx hb dL_law_1767 (by decide) (fun _ => ?_) (fun z => absurd rfl z)
  refine W.widen (k := cells + 29) (n := slots + 1060) (by omega) (by omega) ?_
  exact kk _ _ _ _ _ _ _ hR' hw hl
set_option maxHeartbeats 4000000 in
set_option maxRecDepth 100000 in
theorem lc_step (hop : Op_step R) (hRN : ∀ σ τ N, R σ τ N → mB N 0 ∧ N % 29 = 0 ∧ N ≤ 87 ∧ mV N τ) (C0 : CallFix p m c code 4 s #[Value.ref b] wsL_law RL) (hX : va_X b L xs s s.heap) (hbl : b < s.heap.size) (hL : L < 2 ^ 31) (hi : i + 6 ≤ L) (hcs : cells + 29 ≤ 600000 ∧ slots + 1060 ≤ 7302250) (hR : R σ τ N) (hw : l_H D cI cJ cS cR adX adM adK adV N (fun q : Nat => s.heap.size ≤ q) s σ τ H locs) (hl : lv_has ls 4 [(0, .ref b), (1, .ref (adX 0)), (2, .ref (adM 0)), (3, .int (nI i))])
    (kk : ∀ (σ' τ' : q_M) (N' : Nat) (adM' : Nat → Nat) (H : Heap) (locs : List Loc) (ls : Array Slot), R σ' τ' N' → l_H D cI cJ cS cR adX adM' adK adV N' (fun q : Nat => s.heap.size ≤ q) s σ' τ' H locs → lv_has ls 4 [(0, .ref b), (1, .ref (adX 0)), (2, .ref (adM' 0)), (3, .int (nI i))] → W p l e room_1 s m #[Value.ref b] below meth c H locs (cells + 29) (slots + 1060) Q (F0 m 1847 ls [])) : W p l e room_1 s m #[Value.ref b] below meth c H locs cells slots Q (F0 m 1772 ls []) := by
  obtain ⟨hx, hb, hml, hown, hts⟩ := id C0
  have hbA : ¬ (fun q : Nat => s.heap.size ≤ q) b := Nat.not_le.mpr hbl
  refine lv_aload_n hx hb dL_law_1772 rfl (lv_at hl 1 rfl) ?_
  obtain ⟨r, σ', τ', h1, h2, hR'⟩ := hop σ τ N  hR
  refine l_callXi hw (va_runV (As := []) (rest := []) C0 (kX8_step h1 _) (cwV 0 hts gL_law_X8_step rfl rfl rfl eL_X8_step ⟨(Nat.le_of_ble_eq_true rfl), (Nat.le_of_ble_eq_true rfl)⟩) ⟨q_blind, q_recv (l_X hw) (xN_0 xF_0) (xE_0 xF_0) rfl, q_pre (l_X hw)⟩ rfl rfl hl.1 rfl (lv_room (Nat.le_of_ble_eq_true rfl)) dL_law_1773 ⟨(show cells + 0 ≤ 600000 by omega), (show slots + 0 ≤ 7302250 by omega)⟩) (fun H locs hw => ?_)
  refine lv_aload_n hx hb dL_law_1776 rfl (lv_at hl 2 rfl) ?_
  refine l_callMi hw (va_runV (As := []) (rest := [.int r]) C0 (kX9_step (hRN _ _ _ hR).1 h2 _) (cwV 0 hts gL_law_X9_step rfl rfl rfl eL_X9_step ⟨(Nat.le_of_ble_eq_true rfl), (Nat.le_of_ble_eq_true rfl)⟩) ⟨q_blind, q_recv (l_M hw) (mN_0 (hRN _ _ _ hR).1) (mE_0 (hRN _ _ _ hR).1) rfl, q_pre (l_M hw)⟩ rfl rfl hl.1 rfl (lv_room (Nat.le_of_ble_eq_true rfl)) dL_law_1777 ⟨(show cells + 0 ≤ 600000 by omega), (show slots + 0 ≤ 7302250 by omega)⟩) (fun H locs hw => ?_)
  refine lv_icmp_eq (tgt := 1847) hx hb dL_law_1780 (by decide) (fun _ => ?_) (fun z => absurd rfl z)
  refine W.widen (k := cells + 29) (n := slots + 1060) (by omega) (by omega) ?_
  exact kk _ _ _ _ _ _ _ hR' hw hl
set_option maxHeartbeats 4000000 in
set_option maxRecDepth 100000 in
theorem lc_again (hop : Op_again R) (hRN : ∀ σ τ N, R σ τ N → mB N 0 ∧ N % 29 = 0 ∧ N ≤ 87 ∧ mV N τ) (C0 : CallFix p m c code 4 s #[Value.ref b] wsL_law RL) (hX : va_X b L xs s s.heap) (hbl : b < s.heap.size) (hL : L < 2 ^ 31) (hi : i + 6 ≤ L) (hcs : cells + 29 ≤ 600000 ∧ slots + 1060 ≤ 7302250) (hR : R σ τ N) (hw : l_H D cI cJ cS cR adX adM adK adV N (fun q : Nat => s.heap.size ≤ q) s σ τ H locs) (hl : lv_has ls 4 [(0, .ref b), (1, .ref (adX 0)), (2, .ref (adM 0)), (3, .int (nI i))])
    (kk : ∀ (σ' τ' : q_M) (N' : Nat) (adM' : Nat → Nat) (H : Heap) (locs : List Loc) (ls : Array Slot), R σ' τ' N' → l_H D cI cJ cS cR adX adM' adK adV N' (fun q : Nat => s.heap.size ≤ q) s σ' τ' H locs → lv_has ls 4 [(0, .ref b), (1, .ref (adX 0)), (2, .ref (adM' 0)), (3, .int (nI i))] → W p l e room_1 s m #[Value.ref b] below meth c H locs (cells + 29) (slots + 1060) Q (F0 m 1847 ls [])) : W p l e room_1 s m #[Value.ref b] below meth c H locs cells slots Q (F0 m 1785 ls []) := by
  obtain ⟨hx, hb, hml, hown, hts⟩ := id C0
  have hbA : ¬ (fun q : Nat => s.heap.size ≤ q) b := Nat.not_le.mpr hbl
  refine lv_aload_n hx hb dL_law_1785 rfl (lv_at hl 1 rfl) ?_
  obtain ⟨r, σ', τ', h1, h2, hR'⟩ := hop σ τ N  hR
  refine l_callXi hw (va_runV (As := []) (rest := []) C0 (kX8_again h1 _) (cwV 0 hts gL_law_X8_again rfl rfl rfl eL_X8_again ⟨(Nat.le_of_ble_eq_true rfl), (Nat.le_of_ble_eq_true rfl)⟩) ⟨q_blind, q_recv (l_X hw) (xN_0 xF_0) (xE_0 xF_0) rfl, q_pre (l_X hw)⟩ rfl rfl hl.1 rfl (lv_room (Nat.le_of_ble_eq_true rfl)) dL_law_1786 ⟨(show cells + 0 ≤ 600000 by omega), (show slots + 0 ≤ 7302250 by omega)⟩) (fun H locs hw => ?_)
  refine lv_aload_n hx hb dL_law_1789 rfl (lv_at hl 2 rfl) ?_
  refine l_callMi hw (va_runV (As := []) (rest := [.int r]) C0 (kX9_again (hRN _ _ _ hR).1 h2 _) (cwV 0 hts gL_law_X9_again rfl rfl rfl eL_X9_again ⟨(Nat.le_of_ble_eq_true rfl), (Nat.le_of_ble_eq_true rfl)⟩) ⟨q_blind, q_recv (l_M hw) (mN_0 (hRN _ _ _ hR).1) (mE_0 (hRN _ _ _ hR).1) rfl, q_pre (l_M hw)⟩ rfl rfl hl.1 rfl (lv_room (Nat.le_of_ble_eq_true rfl)) dL_law_1790 ⟨(show cells + 0 ≤ 600000 by omega), (show slots + 0 ≤ 7302250 by omega)⟩) (fun H locs hw => ?_)
  refine lv_icmp_eq (tgt := 1847) hx hb dL_law_1793 (by decide) (fun _ => ?_) (fun z => absurd rfl z)
  refine W.widen (k := cells + 29) (n := slots + 1060) (by omega) (by omega) ?_
  exact kk _ _ _ _ _ _ _ hR' hw hl
set_option maxHeartbeats 4000000 in
set_option maxRecDepth 100000 in
theorem lc_image (hop : Op_image σ1 R) (hS1 : fX9_showOnes 0 m_0 = some σ1) (h19 : σ1.1 0 19 = 0) (h27 : σ1.1 0 27 = 0) (hRN : ∀ σ τ N, R σ τ N → mB N 0 ∧ N % 29 = 0 ∧ N ≤ 87 ∧ mV N τ) (C0 : CallFix p m c code 4 s #[Value.ref b] wsL_law RL) (hX : va_X b L xs s s.heap) (hbl : b < s.heap.size) (hL : L < 2 ^ 31) (hi : i + 6 ≤ L) (hcs : cells + 29 ≤ 600000 ∧ slots + 1060 ≤ 7302250) (hR : R σ τ N) (hw : l_H D cI cJ cS cR adX adM adK adV N (fun q : Nat => s.heap.size ≤ q) s σ τ H locs) (hl : lv_has ls 4 [(0, .ref b), (1, .ref (adX 0)), (2, .ref (adM 0)), (3, .int (nI i))])
    (kk : ∀ (σ' τ' : q_M) (N' : Nat) (adM' : Nat → Nat) (H : Heap) (locs : List Loc) (ls : Array Slot), R σ' τ' N' → l_H D cI cJ cS cR adX adM' adK adV N' (fun q : Nat => s.heap.size ≤ q) s σ' τ' H locs → lv_has ls 4 [(0, .ref b), (1, .ref (adX 0)), (2, .ref (adM' 0)), (3, .int (nI i))] → W p l e room_1 s m #[Value.ref b] below meth c H locs (cells + 29) (slots + 1060) Q (F0 m 1847 ls [])) : W p l e room_1 s m #[Value.ref b] below meth c H locs cells slots Q (F0 m 1798 ls []) := by
  obtain ⟨hx, hb, hml, hown, hts⟩ := id C0
  have hbA : ¬ (fun q : Nat => s.heap.size ≤ q) b := Nat.not_le.mpr hbl
  refine lv_aload_n hx hb dL_law_1798 rfl (lv_at hl 1 rfl) ?_
  obtain ⟨σ', τ', h1, h2⟩ := hop σ τ N hR
  refine l_callXi hw (va_runV (As := []) (rest := []) C0 (kX8_image h1 _) (cwV 0 hts gL_law_X8_image rfl rfl rfl eL_X8_image ⟨(Nat.le_of_ble_eq_true rfl), (Nat.le_of_ble_eq_true rfl)⟩) ⟨q_blind, q_recv (l_X hw) (xN_0 xF_0) (xE_0 xF_0) rfl, q_pre (l_X hw)⟩ rfl rfl hl.1 rfl (lv_room (Nat.le_of_ble_eq_true rfl)) dL_law_1799 ⟨(show cells + 0 ≤ 600000 by omega), (show slots + 0 ≤ 7302250 by omega)⟩) (fun H locs hw => ?_)
  refine lv_aload_n hx hb dL_law_1802 rfl (lv_at hl 2 rfl) ?_
  rcases h2 with ⟨h3, h5, hR'⟩ | ⟨kb, h3, h4, h6, h5, hR'⟩
  ·
    refine l_callMm (out := (1, τ', N + 29)) hw (va_runV (As := []) (rest := [.int 1]) C0 (kX9_imageA (hRN _ _ _ hR).1 (hRN _ _ _ hR).2.1 (by have := (hRN _ _ _ hR).2.2.1; omega) (hRN _ _ _ hR).2.2.2 h3 hS1 h19 h27 h5 _) (cwV 0 hts gL_law_X9_image rfl rfl rfl eL_X9_image ⟨(Nat.le_of_ble_eq_true rfl), (Nat.le_of_ble_eq_true rfl)⟩) ⟨m_blind, q_recv (l_M hw) (mN_0 (hRN _ _ _ hR).1) (mE_0 (hRN _ _ _ hR).1) rfl, l_preM hw⟩ rfl rfl hl.1 rfl (lv_room (Nat.le_of_ble_eq_true rfl)) dL_law_1803 ⟨hcs.1, hcs.2⟩) (fun adM' H locs hu hw => ?_)
    have hu0 : adM' 0 = adM 0 := hu 0 (by have := (hRN _ _ _ hR).1.2; omega)
    refine lv_icmp_eq (tgt := 1847) hx hb dL_law_1806 (by decide) (fun _ => ?_) (fun z => absurd rfl z)
    rw [← hu0] at hl
    exact kk _ _ _ _ _ _ _ hR' hw hl
  ·
    refine l_callMm (out := (1, τ', N)) hw (va_runV (As := []) (rest := [.int 1]) C0 (kX9_imageB (hRN _ _ _ hR).1 h4 h6 (by have := (hRN _ _ _ hR).2.2.1; have := h4.2; omega) h3 h5 _) (cwV 0 hts gL_law_X9_image rfl rfl rfl eL_X9_image ⟨(Nat.le_of_ble_eq_true rfl), (Nat.le_of_ble_eq_true rfl)⟩) ⟨m_blind, q_recv (l_M hw) (mN_0 (hRN _ _ _ hR).1) (mE_0 (hRN _ _ _ hR).1) rfl, l_preM hw⟩ rfl rfl hl.1 rfl (lv_room (Nat.le_of_ble_eq_true rfl)) dL_law_1803 ⟨hcs.1, hcs.2⟩) (fun adM' H locs hu hw => ?_)
    have hu0 : adM' 0 = adM 0 := hu 0 (by have := (hRN _ _ _ hR).1.2; omega)
    refine lv_icmp_eq (tgt := 1847) hx hb dL_law_1806 (by decide) (fun _ => ?_) (fun z => absurd rfl z)
    rw [← hu0] at hl
    exact kk _ _ _ _ _ _ _ hR' hw hl
set_option maxHeartbeats 4000000 in
set_option maxRecDepth 100000 in
theorem lc_back (hop : Op_back R) (hRN : ∀ σ τ N, R σ τ N → mB N 0 ∧ N % 29 = 0 ∧ N ≤ 87 ∧ mV N τ) (C0 : CallFix p m c code 4 s #[Value.ref b] wsL_law RL) (hX : va_X b L xs s s.heap) (hbl : b < s.heap.size) (hL : L < 2 ^ 31) (hi : i + 6 ≤ L) (hcs : cells + 29 ≤ 600000 ∧ slots + 1060 ≤ 7302250) (hR : R σ τ N) (hw : l_H D cI cJ cS cR adX adM adK adV N (fun q : Nat => s.heap.size ≤ q) s σ τ H locs) (hl : lv_has ls 4 [(0, .ref b), (1, .ref (adX 0)), (2, .ref (adM 0)), (3, .int (nI i))])
    (kk : ∀ (σ' τ' : q_M) (N' : Nat) (adM' : Nat → Nat) (H : Heap) (locs : List Loc) (ls : Array Slot), R σ' τ' N' → l_H D cI cJ cS cR adX adM' adK adV N' (fun q : Nat => s.heap.size ≤ q) s σ' τ' H locs → lv_has ls 4 [(0, .ref b), (1, .ref (adX 0)), (2, .ref (adM' 0)), (3, .int (nI i))] → W p l e room_1 s m #[Value.ref b] below meth c H locs (cells + 29) (slots + 1060) Q (F0 m 1847 ls [])) : W p l e room_1 s m #[Value.ref b] below meth c H locs cells slots Q (F0 m 1811 ls []) := by
  obtain ⟨hx, hb, hml, hown, hts⟩ := id C0
  have hbA : ¬ (fun q : Nat => s.heap.size ≤ q) b := Nat.not_le.mpr hbl
  refine lv_aload_n hx hb dL_law_1811 rfl (lv_at hl 1 rfl) ?_
  obtain ⟨r, σ', τ', h1, h2, hR'⟩ := hop σ τ N hR
  refine l_callXi hw (va_runV (As := []) (rest := []) C0 (kX8_back h1 _) (cwV 0 hts gL_law_X8_back rfl rfl rfl eL_X8_back ⟨(Nat.le_of_ble_eq_true rfl), (Nat.le_of_ble_eq_true rfl)⟩) ⟨q_blind, q_recv (l_X hw) (xN_0 xF_0) (xE_0 xF_0) rfl, q_pre (l_X hw)⟩ rfl rfl hl.1 rfl (lv_room (Nat.le_of_ble_eq_true rfl)) dL_law_1812 ⟨(show cells + 0 ≤ 600000 by omega), (show slots + 0 ≤ 7302250 by omega)⟩) (fun H locs hw => ?_)
  refine lv_aload_n hx hb dL_law_1815 rfl (lv_at hl 2 rfl) ?_
  rcases h2 with ⟨h3, h5⟩ | ⟨kb, h3, h4, h6, h5⟩
  ·
    refine l_callMi hw (va_runV (As := []) (rest := [.int r]) C0 (kX9_backA (hRN _ _ _ hR).1 h3 h5 _) (cwV 0 hts gL_law_X9_back rfl rfl rfl eL_X9_back ⟨(Nat.le_of_ble_eq_true rfl), (Nat.le_of_ble_eq_true rfl)⟩) ⟨q_blind, q_recv (l_M hw) (mN_0 (hRN _ _ _ hR).1) (mE_0 (hRN _ _ _ hR).1) rfl, q_pre (l_M hw)⟩ rfl rfl hl.1 rfl (lv_room (Nat.le_of_ble_eq_true rfl)) dL_law_1816 ⟨(show cells + 0 ≤ 600000 by omega), (show slots + 0 ≤ 7302250 by omega)⟩) (fun H locs hw => ?_)
    refine lv_icmp_eq (tgt := 1847) hx hb dL_law_1819 (by decide) (fun _ => ?_) (fun z => absurd rfl z)
    refine W.widen (k := cells + 29) (n := slots + 1060) (by omega) (by omega) ?_
    exact kk _ _ _ _ _ _ _ hR' hw hl
  ·
    refine l_callMi hw (va_runV (As := []) (rest := [.int r]) C0 (kX9_backB (hRN _ _ _ hR).1 h4 h6 (by have := (hRN _ _ _ hR).2.2.1; have := h4.2; omega) h3 h5 _) (cwV 0 hts gL_law_X9_back rfl rfl rfl eL_X9_back ⟨(Nat.le_of_ble_eq_true rfl), (Nat.le_of_ble_eq_true rfl)⟩) ⟨q_blind, q_recv (l_M hw) (mN_0 (hRN _ _ _ hR).1) (mE_0 (hRN _ _ _ hR).1) rfl, q_pre (l_M hw)⟩ rfl rfl hl.1 rfl (lv_room (Nat.le_of_ble_eq_true rfl)) dL_law_1816 ⟨(show cells + 0 ≤ 600000 by omega), (show slots + 0 ≤ 7302250 by omega)⟩) (fun H locs hw => ?_)
    refine lv_icmp_eq (tgt := 1847) hx hb dL_law_1819 (by decide) (fun _ => ?_) (fun z => absurd rfl z)
    refine W.widen (k := cells + 29) (n := slots + 1060) (by omega) (by omega) ?_
    exact kk _ _ _ _ _ _ _ hR' hw hl
set_option maxHeartbeats 4000000 in
set_option maxRecDepth 100000 in
theorem lc_status (hop : Op_status R) (hRN : ∀ σ τ N, R σ τ N → mB N 0 ∧ N % 29 = 0 ∧ N ≤ 87 ∧ mV N τ) (C0 : CallFix p m c code 4 s #[Value.ref b] wsL_law RL) (hX : va_X b L xs s s.heap) (hbl : b < s.heap.size) (hL : L < 2 ^ 31) (hi : i + 6 ≤ L) (hcs : cells + 29 ≤ 600000 ∧ slots + 1060 ≤ 7302250) (hR : R σ τ N) (hw : l_H D cI cJ cS cR adX adM adK adV N (fun q : Nat => s.heap.size ≤ q) s σ τ H locs) (hl : lv_has ls 4 [(0, .ref b), (1, .ref (adX 0)), (2, .ref (adM 0)), (3, .int (nI i))])
    (kk : ∀ (σ' τ' : q_M) (N' : Nat) (adM' : Nat → Nat) (H : Heap) (locs : List Loc) (ls : Array Slot), R σ' τ' N' → l_H D cI cJ cS cR adX adM' adK adV N' (fun q : Nat => s.heap.size ≤ q) s σ' τ' H locs → lv_has ls 4 [(0, .ref b), (1, .ref (adX 0)), (2, .ref (adM' 0)), (3, .int (nI i))] → W p l e room_1 s m #[Value.ref b] below meth c H locs (cells + 29) (slots + 1060) Q (F0 m 1847 ls [])) : W p l e room_1 s m #[Value.ref b] below meth c H locs cells slots Q (F0 m 1824 ls []) := by
  obtain ⟨hx, hb, hml, hown, hts⟩ := id C0
  have hbA : ¬ (fun q : Nat => s.heap.size ≤ q) b := Nat.not_le.mpr hbl
  refine lv_aload_n hx hb dL_law_1824 rfl (lv_at hl 1 rfl) ?_
  refine lv_aload_n hx hb dL_law_1825 rfl (lv_at hl 0 rfl) ?_
  refine lv_iload_n hx hb dL_law_1826 rfl (lv_at hl 3 rfl) ?_
  refine lv_iconst (v := (1 : Int32)) hx hb dL_law_1827 (by decide) ?_
  refine lv_iadd hx hb dL_law_1828 ?_
  refine l_sld (i := i) (k := 1) C0 hX hbl hbA hw.1.2.2.2.1 (nI_add i 1) (by omega) hL dL_law_1829 ?_
  obtain ⟨r, σ', τ', h1, h2, hR'⟩ := hop σ τ N (xs (i + 1)) hR
  refine l_callXi hw (va_runV (As := [.int (xs (i + 1))]) (rest := []) C0 (kX8_status h1 _) (cwV 1 hts gL_law_X8_status rfl rfl rfl eL_X8_status ⟨(Nat.le_of_ble_eq_true rfl), (Nat.le_of_ble_eq_true rfl)⟩) ⟨q_blind, q_recv (l_X hw) (xN_0 xF_0) (xE_0 xF_0) rfl, q_pre (l_X hw)⟩ rfl rfl hl.1 rfl (lv_room (Nat.le_of_ble_eq_true rfl)) dL_law_1830 ⟨(show cells + 0 ≤ 600000 by omega), (show slots + 0 ≤ 7302250 by omega)⟩) (fun H locs hw => ?_)
  refine lv_aload_n hx hb dL_law_1833 rfl (lv_at hl 2 rfl) ?_
  refine lv_aload_n hx hb dL_law_1834 rfl (lv_at hl 0 rfl) ?_
  refine lv_iload_n hx hb dL_law_1835 rfl (lv_at hl 3 rfl) ?_
  refine lv_iconst (v := (1 : Int32)) hx hb dL_law_1836 (by decide) ?_
  refine lv_iadd hx hb dL_law_1837 ?_
  refine l_sld (i := i) (k := 1) C0 hX hbl hbA hw.1.2.2.2.1 (nI_add i 1) (by omega) hL dL_law_1838 ?_
  refine l_callMi hw (va_runV (As := [.int (xs (i + 1))]) (rest := [.int r]) C0 (kX9_status (hRN _ _ _ hR).1 h2 _) (cwV 1 hts gL_law_X9_status rfl rfl rfl eL_X9_status ⟨(Nat.le_of_ble_eq_true rfl), (Nat.le_of_ble_eq_true rfl)⟩) ⟨q_blind, q_recv (l_M hw) (mN_0 (hRN _ _ _ hR).1) (mE_0 (hRN _ _ _ hR).1) rfl, q_pre (l_M hw)⟩ rfl rfl hl.1 rfl (lv_room (Nat.le_of_ble_eq_true rfl)) dL_law_1839 ⟨(show cells + 0 ≤ 600000 by omega), (show slots + 0 ≤ 7302250 by omega)⟩) (fun H locs hw => ?_)
  refine lv_icmp_eq (tgt := 1847) hx hb dL_law_1842 (by decide) (fun _ => ?_) (fun z => absurd rfl z)
  refine W.widen (k := cells + 29) (n := slots + 1060) (by omega) (by omega) ?_
  exact kk _ _ _ _ _ _ _ hR' hw hl
end
