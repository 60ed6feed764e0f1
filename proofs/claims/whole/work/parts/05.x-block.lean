section
variable {p : Program} {l : Launch} {e : Env} {s : State} {m : MethodId} {args : Array Value} {below : List Frame} {meth : Method} {c : Code} {D : va_G} {cI cJ cS : ClassId} {ad adK adV : Nat → Nat}
-- X0_layer layer(II)J
theorem iX0_layer_X0 : ∀ w ∈ wsX00, w ∈ wsX0_layer := by decide +kernel
set_option maxHeartbeats 4000000 in
set_option maxRecDepth 100000 in
theorem kX0_layer {k : Nat} {p1 : Int32} {p2 : Int32} (hk : xK k = 2) {σ : q_M} {out : Int64 × q_M} (h : fX0_layer k p1 p2 σ = some out) : q_Ml l (gX D cI cJ cS ad adK adV) yX0_layer wsX0_layer { frames := 0, cells := 0, slots := 0, locals := 0 } [.ref (ad k), .int p1, .int p2] σ out := by
  refine q_Ml_of (cc := cX0_layer) (maxL := 3) (ret := (some .long)) (by decide) rfl (Nat.le_of_ble_eq_true rfl) ?_
  intro p e s m below meth c ls C0 hr hlk hl hw
  obtain ⟨hx, hb, hml, hown, hts⟩ := id C0
  replace hl : lv_has ls 3 [(0, .ref (ad k)), (1, .int p1), (2, .int p2)] := hl
  unfold fX0_layer at h
  refine lv_aload_n hx hb dX0_layer_0 rfl (lv_at hl 0 rfl) ?_
  refine gt_X0_4 C0 hw hk iX0_layer_X0 (by decide +kernel) dX0_layer_1 ?_
  refine lv_iconst (v := (4 : Int32)) hx hb dX0_layer_4 (by decide) ?_
  refine lv_iload_n hx hb dX0_layer_5 rfl (lv_at hl 1 rfl) ?_
  refine lv_imul hx hb dX0_layer_6 ?_
  refine lv_iload_n hx hb dX0_layer_7 rfl (lv_at hl 2 rfl) ?_
  refine lv_iadd hx hb dX0_layer_8 ?_
  obtain ⟨b1, h⟩ := q_if h
  refine q_lald (t0 := 1) C0 hw (xN_4 (xD_2_2 hk)) (xE_4 (xD_2_2 hk)) rfl b1 dX0_layer_9 ?_
  exact q_lret h C0 hr hlk hw dX0_layer_10
-- X0_become become(I)V
theorem iX0_become_X0 : ∀ w ∈ wsX00, w ∈ wsX0_become := by decide +kernel
theorem eJ7_fill_d0a16 : yJ7_fill_d0a16.cls ≠ "java/lang/invoke/MethodHandle" ∧ yJ7_fill_d0a16.cls ≠ "java/lang/invoke/VarHandle" ∧ (parseMethodDescriptor yJ7_fill_d0a16.desc).map (fun d => d.parameters.length) = some 2 := by decide +kernel
theorem eX0_layer : yX0_layer.cls = RX0 ∧ yX0_layer.cls ≠ "java/lang/invoke/MethodHandle" ∧ yX0_layer.cls ≠ "java/lang/invoke/VarHandle" ∧ (parseMethodDescriptor yX0_layer.desc).map (fun d => d.parameters.length) = some 2 := by decide +kernel
set_option maxHeartbeats 4000000 in
set_option maxRecDepth 100000 in
theorem tX0_become_c164 {k : Nat} {p1 : Int32} (hk : xK k = 2) (C0 : CallFix p m c cX0_become 7 s args wsX0_become RX0) (hr : meth.sig.returnType = none) (hlk : meth.locks = false) {out : q_M}  : ∀ n : Nat, ∀ (v4 : Int32) (σ : q_M) (H : Heap) (locs : List Loc) (ls : Array Slot), q_H (gX D cI cJ cS ad adK adV) (q_A (gX D cI cJ cS ad adK adV) s.heap.size) s σ H locs → lv_has ls 7 [(0, .ref (ad k)), (1, .int p1), (4, .int v4)] → fX0_become_c164 k p1 n v4 σ = some out → W p l e { frames := 1, cells := 0, slots := 0, locals := 24 } s m args below meth c H locs 0 0 (MQ below (q_Rv (gX D cI cJ cS ad adK adV) (q_A (gX D cI cJ cS ad adK adV) s.heap.size) out) args s 0 0 (q_A (gX D cI cJ cS ad adK adV) s.heap.size)) (F0 m 164 ls []) := by
  obtain ⟨hx, hb, hml, hown, hts⟩ := id C0
  intro n
  induction n with
  | zero =>
    intro v4 σ H locs ls  hw hl h
    cases (show (none : Option (q_M)) = some out from h)
  | succ n hrec164 =>
    intro v4 σ H locs ls  hw hl h
    replace h : fX0_become_c164b k p1 (fX0_become_c164 k p1 n) v4 σ = some out := h
    unfold fX0_become_c164b at h
    refine lv_iload hx hb dX0_become_164 (lv_at hl 2 rfl) ?_
    refine lv_iconst (v := (3 : Int32)) hx hb dX0_become_166 (by decide) ?_
    refine lv_icmp_ge (tgt := 212) hx hb dX0_become_167 (by decide) (fun c1 => ?_) (fun c1 => ?_)
    · replace h := q_t h c1
      exact q_vret h C0 hr hlk hw dX0_become_212
    · replace h := q_f h c1
      refine lv_aload_n hx hb dX0_become_170 rfl (lv_at hl 0 rfl) ?_
      refine gt_X0_5 C0 hw hk iX0_become_X0 (by decide +kernel) dX0_become_171 ?_
      refine lv_iconst (v := (2 : Int32)) hx hb dX0_become_174 (by decide) ?_
      refine lv_iload hx hb dX0_become_175 (lv_at hl 2 rfl) ?_
      refine lv_imul hx hb dX0_become_177 ?_
      refine lv_aload_n hx hb dX0_become_178 rfl (lv_at hl 0 rfl) ?_
      refine lv_iload hx hb dX0_become_179 (lv_at hl 2 rfl) ?_
      refine lv_iload_n hx hb dX0_become_181 rfl (lv_at hl 1 rfl) ?_
      refine lv_iconst (v := (1 : Int32)) hx hb dX0_become_182 (by decide) ?_
      refine lv_isub hx hb dX0_become_183 ?_
      obtain ⟨o2, hco2, h⟩ := q_bind h
      refine q_calll hw (va_runV (As := [.int v4, .int (p1 - (1 : Int32))]) (rest := [.int ((2 : Int32) * v4), .ref (ad (k + 3))]) C0 (kX0_layer hk hco2 _) (cwV 2 hts gX0_become_X0_layer rfl rfl rfl eX0_layer ⟨(Nat.le_of_ble_eq_true rfl), (Nat.le_of_ble_eq_true rfl)⟩) ⟨q_blind, q_recv hw (xN_2 hk) (xE_2 hk) rfl, q_pre hw⟩ rfl rfl hl.1 rfl (lv_room (Nat.le_of_ble_eq_true rfl)) dX0_become_184 ⟨Nat.zero_le _, Nat.zero_le _⟩) (fun H locs hw => ?_)
      obtain ⟨b3, h⟩ := q_if h
      refine q_last (t0 := 1) C0 hw (xN_5 (xD_2_3 hk)) (xE_5 (xD_2_3 hk)) rfl b3 dX0_become_187 (fun σ4 H locs e_σ4 hw => ?_)
      replace h := q_let_at e_σ4 h
      refine lv_aload_n hx hb dX0_become_188 rfl (lv_at hl 0 rfl) ?_
      refine gt_X0_5 C0 hw hk iX0_become_X0 (by decide +kernel) dX0_become_189 ?_
      refine lv_iconst (v := (2 : Int32)) hx hb dX0_become_192 (by decide) ?_
      refine lv_iload hx hb dX0_become_193 (lv_at hl 2 rfl) ?_
      refine lv_imul hx hb dX0_become_195 ?_
      refine lv_iconst (v := (1 : Int32)) hx hb dX0_become_196 (by decide) ?_
      refine lv_iadd hx hb dX0_become_197 ?_
      refine lv_aload_n hx hb dX0_become_198 rfl (lv_at hl 0 rfl) ?_
      refine lv_iload hx hb dX0_become_199 (lv_at hl 2 rfl) ?_
      refine lv_iconst (v := (0 : Int32)) hx hb dX0_become_201 (by decide) ?_
      obtain ⟨o5, hco5, h⟩ := q_bind h
      refine q_calll hw (va_runV (As := [.int v4, .int (0 : Int32)]) (rest := [.int (((2 : Int32) * v4) + (1 : Int32)), .ref (ad (k + 3))]) C0 (kX0_layer hk hco5 _) (cwV 2 hts gX0_become_X0_layer rfl rfl rfl eX0_layer ⟨(Nat.le_of_ble_eq_true rfl), (Nat.le_of_ble_eq_true rfl)⟩) ⟨q_blind, q_recv hw (xN_2 hk) (xE_2 hk) rfl, q_pre hw⟩ rfl rfl hl.1 rfl (lv_room (Nat.le_of_ble_eq_true rfl)) dX0_become_202 ⟨Nat.zero_le _, Nat.zero_le _⟩) (fun H locs hw => ?_)
      obtain ⟨b6, h⟩ := q_if h
      refine q_last (t0 := 1) C0 hw (xN_5 (xD_2_3 hk)) (xE_5 (xD_2_3 hk)) rfl b6 dX0_become_205 (fun σ7 H locs e_σ7 hw => ?_)
      replace h := q_let_at e_σ7 h
      refine lv_iinc (v := (v4 + (1 : Int32))) (lv' := [(4, .int (v4 + (1 : Int32))), (0, .ref (ad k)), (1, .int p1)]) hx hb dX0_become_206 hl (k := 2) rfl rfl (by decide) rfl (fun ls hl => ?_)
      refine lv_goto (tgt := 164) hx hb dX0_become_209 (by decide) ?_
      exact hrec164 (v4 + (1 : Int32)) σ7 _ _ _ hw (lv_sub hl [1, 2, 0] rfl) h
set_option maxHeartbeats 4000000 in
set_option maxRecDepth 100000 in
theorem tX0_become_c95 {k : Nat} {p1 : Int32} {rec77 : Int64 → Int32 → q_M → Option (q_M)} {rec86 : Int64 → Int32 → Int32 → q_M → Option (q_M)} (hk : xK k = 2) (C0 : CallFix p m c cX0_become 7 s args wsX0_become RX0) (hr : meth.sig.returnType = none) (hlk : meth.locks = false) {out : q_M} (hrec77 : ∀ (v2 : Int64) (v4 : Int32) (σ : q_M) (H : Heap) (locs : List Loc) (ls : Array Slot), q_H (gX D cI cJ cS ad adK adV) (q_A (gX D cI cJ cS ad adK adV) s.heap.size) s σ H locs → lv_has ls 7 [(0, .ref (ad k)), (1, .int p1), (2, .long v2), (4, .int v4)] → rec77 v2 v4 σ = some out → W p l e { frames := 1, cells := 0, slots := 0, locals := 24 } s m args below meth c H locs 0 0 (MQ below (q_Rv (gX D cI cJ cS ad adK adV) (q_A (gX D cI cJ cS ad adK adV) s.heap.size) out) args s 0 0 (q_A (gX D cI cJ cS ad adK adV) s.heap.size)) (F0 m 77 ls [])) (hrec86 : ∀ (v2 : Int64) (v4 : Int32) (v5 : Int32) (σ : q_M) (H : Heap) (locs : List Loc) (ls : Array Slot), q_H (gX D cI cJ cS ad adK adV) (q_A (gX D cI cJ cS ad adK adV) s.heap.size) s σ H locs → lv_has ls 7 [(0, .ref (ad k)), (1, .int p1), (2, .long v2), (4, .int v4), (5, .int v5)] → rec86 v2 v4 v5 σ = some out → W p l e { frames := 1, cells := 0, slots := 0, locals := 24 } s m args below meth c H locs 0 0 (MQ below (q_Rv (gX D cI cJ cS ad adK adV) (q_A (gX D cI cJ cS ad adK adV) s.heap.size) out) args s 0 0 (q_A (gX D cI cJ cS ad adK adV) s.heap.size)) (F0 m 86 ls [])) : ∀ n : Nat, ∀ (v2 : Int64) (v4 : Int32) (v5 : Int32) (v6 : Int32) (σ : q_M) (H : Heap) (locs : List Loc) (ls : Array Slot), q_H (gX D cI cJ cS ad adK adV) (q_A (gX D cI cJ cS ad adK adV) s.heap.size) s σ H locs → lv_has ls 7 [(0, .ref (ad k)), (1, .int p1), (2, .long v2), (4, .int v4), (5, .int v5), (6, .int v6)] → fX0_become_c95 k p1 rec77 rec86 n v2 v4 v5 v6 σ = some out → W p l e { frames := 1, cells := 0, slots := 0, locals := 24 } s m args below meth c H locs 0 0 (MQ below (q_Rv (gX D cI cJ cS ad adK adV) (q_A (gX D cI cJ cS ad adK adV) s.heap.size) out) args s 0 0 (q_A (gX D cI cJ cS ad adK adV) s.heap.size)) (F0 m 95 ls []) := by
  obtain ⟨hx, hb, hml, hown, hts⟩ := id C0
  intro n
  induction n with
  | zero =>
    intro v2 v4 v5 v6 σ H locs ls  hw hl h
    cases (show (none : Option (q_M)) = some out from h)
  | succ n hrec95 =>
    intro v2 v4 v5 v6 σ H locs ls  hw hl h
    replace h : fX0_become_c95b k p1 rec77 rec86 (fX0_become_c95 k p1 rec77 rec86 n) v2 v4 v5 v6 σ = some out := h
    unfold fX0_become_c95b at h
    refine lv_iload hx hb dX0_become_95 (lv_at hl 5 rfl) ?_
    refine lv_iload_n hx hb dX0_become_97 rfl (lv_at hl 1 rfl) ?_
    refine lv_icmp_ge (tgt := 149) hx hb dX0_become_98 (by decide) (fun c1 => ?_) (fun c1 => ?_)
    · replace h := q_t h c1
      refine lv_iinc (v := (v5 + (1 : Int32))) (lv' := [(5, .int (v5 + (1 : Int32))), (0, .ref (ad k)), (1, .int p1), (2, .long v2), (4, .int v4), (6, .int v6)]) hx hb dX0_become_149 hl (k := 4) rfl rfl (by decide) rfl (fun ls hl => ?_)
      refine lv_goto (tgt := 86) hx hb dX0_become_152 (by decide) ?_
      exact hrec86 v2 v4 (v5 + (1 : Int32)) σ _ _ _ hw (lv_sub hl [1, 2, 3, 4, 0] rfl) h
    · replace h := q_f h c1
      refine lv_aload_n hx hb dX0_become_101 rfl (lv_at hl 0 rfl) ?_
      refine gt_X0_4 C0 hw hk iX0_become_X0 (by decide +kernel) dX0_become_102 ?_
      refine lv_iload hx hb dX0_become_105 (lv_at hl 5 rfl) ?_
      refine lv_dup2_11 hx hb dX0_become_107 rfl rfl ?_
      obtain ⟨b2, h⟩ := q_if h
      refine q_lald (t0 := 1) C0 hw (xN_4 (xD_2_2 hk)) (xE_4 (xD_2_2 hk)) rfl b2 dX0_become_108 ?_
      refine lv_lload_n hx hb dX0_become_109 rfl (lv_at hl 2 rfl) ?_
      refine lv_lor hx hb dX0_become_110 ?_
      obtain ⟨b3, h⟩ := q_if h
      refine q_last (t0 := 1) C0 hw (xN_4 (xD_2_2 hk)) (xE_4 (xD_2_2 hk)) rfl b3 dX0_become_111 (fun σ4 H locs e_σ4 hw => ?_)
      replace h := q_let_at e_σ4 h
      refine lv_aload_n hx hb dX0_become_112 rfl (lv_at hl 0 rfl) ?_
      refine gt_X0_4 C0 hw hk iX0_become_X0 (by decide +kernel) dX0_become_113 ?_
      refine lv_iconst (v := (4 : Int32)) hx hb dX0_become_116 (by decide) ?_
      refine lv_iload hx hb dX0_become_117 (lv_at hl 4 rfl) ?_
      refine lv_iadd hx hb dX0_become_119 ?_
      refine lv_dup2_11 hx hb dX0_become_120 rfl rfl ?_
      obtain ⟨b5, h⟩ := q_if h
      refine q_lald (t0 := 1) C0 hw (xN_4 (xD_2_2 hk)) (xE_4 (xD_2_2 hk)) rfl b5 dX0_become_121 ?_
      refine lv_lload_n hx hb dX0_become_122 rfl (lv_at hl 2 rfl) ?_
      refine lv_lor hx hb dX0_become_123 ?_
      obtain ⟨b6, h⟩ := q_if h
      refine q_last (t0 := 1) C0 hw (xN_4 (xD_2_2 hk)) (xE_4 (xD_2_2 hk)) rfl b6 dX0_become_124 (fun σ7 H locs e_σ7 hw => ?_)
      replace h := q_let_at e_σ7 h
      refine lv_aload_n hx hb dX0_become_125 rfl (lv_at hl 0 rfl) ?_
      refine gt_X0_4 C0 hw hk iX0_become_X0 (by decide +kernel) dX0_become_126 ?_
      refine lv_bipush (v := (8 : Int32)) hx hb dX0_become_129 (by decide) ?_
      refine lv_iload hx hb dX0_become_131 (lv_at hl 3 rfl) ?_
      refine lv_iadd hx hb dX0_become_133 ?_
      refine lv_dup2_11 hx hb dX0_become_134 rfl rfl ?_
      obtain ⟨b8, h⟩ := q_if h
      refine q_lald (t0 := 1) C0 hw (xN_4 (xD_2_2 hk)) (xE_4 (xD_2_2 hk)) rfl b8 dX0_become_135 ?_
      refine lv_lload_n hx hb dX0_become_136 rfl (lv_at hl 2 rfl) ?_
      refine lv_lor hx hb dX0_become_137 ?_
      obtain ⟨b9, h⟩ := q_if h
      refine q_last (t0 := 1) C0 hw (xN_4 (xD_2_2 hk)) (xE_4 (xD_2_2 hk)) rfl b9 dX0_become_138 (fun σ10 H locs e_σ10 hw => ?_)
      replace h := q_let_at e_σ10 h
      refine lv_lload_n hx hb dX0_become_139 rfl (lv_at hl 2 rfl) ?_
      refine lv_iconst (v := (1 : Int32)) hx hb dX0_become_140 (by decide) ?_
      refine lv_lshl (v := (q_shl v2 (1 : Int32))) hx hb dX0_become_141 rfl ?_
      refine lv_lstore_n (lv' := [(2, .long (q_shl v2 (1 : Int32))), (0, .ref (ad k)), (1, .int p1), (4, .int v4), (5, .int v5), (6, .int v6)]) hx hb dX0_become_142 rfl hl (by decide) rfl (fun ls hl => ?_)
      refine lv_iinc (v := (v6 + (1 : Int32))) (lv' := [(6, .int (v6 + (1 : Int32))), (2, .long (q_shl v2 (1 : Int32))), (0, .ref (ad k)), (1, .int p1), (4, .int v4), (5, .int v5)]) hx hb dX0_become_143 hl (k := 5) rfl rfl (by decide) rfl (fun ls hl => ?_)
      refine lv_goto (tgt := 95) hx hb dX0_become_146 (by decide) ?_
      exact hrec95 (q_shl v2 (1 : Int32)) v4 v5 (v6 + (1 : Int32)) σ10 _ _ _ hw (lv_sub hl [2, 3, 1, 4, 5, 0] rfl) h
set_option maxHeartbeats 4000000 in
set_option maxRecDepth 100000 in
theorem tX0_become_c86 {k : Nat} {p1 : Int32} {rec77 : Int64 → Int32 → q_M → Option (q_M)} (hk : xK k = 2) (C0 : CallFix p m c cX0_become 7 s args wsX0_become RX0) (hr : meth.sig.returnType = none) (hlk : meth.locks = false) {out : q_M} (hrec77 : ∀ (v2 : Int64) (v4 : Int32) (σ : q_M) (H : Heap) (locs : List Loc) (ls : Array Slot), q_H (gX D cI cJ cS ad adK adV) (q_A (gX D cI cJ cS ad adK adV) s.heap.size) s σ H locs → lv_has ls 7 [(0, .ref (ad k)), (1, .int p1), (2, .long v2), (4, .int v4)] → rec77 v2 v4 σ = some out → W p l e { frames := 1, cells := 0, slots := 0, locals := 24 } s m args below meth c H locs 0 0 (MQ below (q_Rv (gX D cI cJ cS ad adK adV) (q_A (gX D cI cJ cS ad adK adV) s.heap.size) out) args s 0 0 (q_A (gX D cI cJ cS ad adK adV) s.heap.size)) (F0 m 77 ls [])) : ∀ n : Nat, ∀ (v2 : Int64) (v4 : Int32) (v5 : Int32) (σ : q_M) (H : Heap) (locs : List Loc) (ls : Array Slot), q_H (gX D cI cJ cS ad adK adV) (q_A (gX D cI cJ cS ad adK adV) s.heap.size) s σ H locs → lv_has ls 7 [(0, .ref (ad k)), (1, .int p1), (2, .long v2), (4, .int v4), (5, .int v5)] → fX0_become_c86 k p1 rec77 n v2 v4 v5 σ = some out → W p l e { frames := 1, cells := 0, slots := 0, locals := 24 } s m args below meth c H locs 0 0 (MQ below (q_Rv (gX D cI cJ cS ad adK adV) (q_A (gX D cI cJ cS ad adK adV) s.heap.size) out) args s 0 0 (q_A (gX D cI cJ cS ad adK adV) s.heap.size)) (F0 m 86 ls []) := by
  obtain ⟨hx, hb, hml, hown, hts⟩ := id C0
  intro n
  induction n with
  | zero =>
    intro v2 v4 v5 σ H locs ls  hw hl h
    cases (show (none : Option (q_M)) = some out from h)
  | succ n hrec86 =>
    intro v2 v4 v5 σ H locs ls  hw hl h
    replace h : fX0_become_c86b k p1 rec77 (fX0_become_c86 k p1 rec77 n) v2 v4 v5 σ = some out := h
    unfold fX0_become_c86b at h
    refine lv_iload hx hb dX0_become_86 (lv_at hl 4 rfl) ?_
    refine lv_iload_n hx hb dX0_become_88 rfl (lv_at hl 1 rfl) ?_
    refine lv_icmp_ge (tgt := 155) hx hb dX0_become_89 (by decide) (fun c1 => ?_) (fun c1 => ?_)
    · replace h := q_t h c1
      refine lv_iinc (v := (v4 + (1 : Int32))) (lv' := [(4, .int (v4 + (1 : Int32))), (0, .ref (ad k)), (1, .int p1), (2, .long v2), (5, .int v5)]) hx hb dX0_become_155 hl (k := 3) rfl rfl (by decide) rfl (fun ls hl => ?_)
      refine lv_goto (tgt := 77) hx hb dX0_become_158 (by decide) ?_
      exact hrec77 v2 (v4 + (1 : Int32)) σ _ _ _ hw (lv_sub hl [1, 2, 3, 0] rfl) h
    · replace h := q_f h c1
      refine lv_iconst (v := (0 : Int32)) hx hb dX0_become_92 (by decide) ?_
      refine lv_istore (lv' := [(6, .int (0 : Int32)), (0, .ref (ad k)), (1, .int p1), (2, .long v2), (4, .int v4), (5, .int v5)]) hx hb dX0_become_93 hl (by decide) rfl (fun ls hl => ?_)
      exact tX0_become_c95 hk C0 hr hlk hrec77 hrec86 q_FU v2 v4 v5 (0 : Int32) σ _ _ _ hw (lv_sub hl [1, 2, 3, 4, 5, 0] rfl) h
set_option maxHeartbeats 4000000 in
set_option maxRecDepth 100000 in
theorem tX0_become_c77 {k : Nat} {p1 : Int32} (hk : xK k = 2) (C0 : CallFix p m c cX0_become 7 s args wsX0_become RX0) (hr : meth.sig.returnType = none) (hlk : meth.locks = false) {out : q_M}  : ∀ n : Nat, ∀ (v2 : Int64) (v4 : Int32) (σ : q_M) (H : Heap) (locs : List Loc) (ls : Array Slot), q_H (gX D cI cJ cS ad adK adV) (q_A (gX D cI cJ cS ad adK adV) s.heap.size) s σ H locs → lv_has ls 7 [(0, .ref (ad k)), (1, .int p1), (2, .long v2), (4, .int v4)] → fX0_become_c77 k p1 n v2 v4 σ = some out → W p l e { frames := 1, cells := 0, slots := 0, locals := 24 } s m args below meth c H locs 0 0 (MQ below (q_Rv (gX D cI cJ cS ad adK adV) (q_A (gX D cI cJ cS ad adK adV) s.heap.size) out) args s 0 0 (q_A (gX D cI cJ cS ad adK adV) s.heap.size)) (F0 m 77 ls []) := by
  obtain ⟨hx, hb, hml, hown, hts⟩ := id C0
  intro n
  induction n with
  | zero =>
    intro v2 v4 σ H locs ls  hw hl h
    cases (show (none : Option (q_M)) = some out from h)
  | succ n hrec77 =>
    intro v2 v4 σ H locs ls  hw hl h
    replace h : fX0_become_c77b k p1 (fX0_become_c77 k p1 n) v2 v4 σ = some out := h
    unfold fX0_become_c77b at h
    refine lv_iload hx hb dX0_become_77 (lv_at hl 3 rfl) ?_
    refine lv_iload_n hx hb dX0_become_79 rfl (lv_at hl 1 rfl) ?_
    refine lv_icmp_ge (tgt := 161) hx hb dX0_become_80 (by decide) (fun c1 => ?_) (fun c1 => ?_)
    · replace h := q_t h c1
      refine lv_iconst (v := (0 : Int32)) hx hb dX0_become_161 (by decide) ?_
      refine lv_istore (lv' := [(4, .int (0 : Int32)), (0, .ref (ad k)), (1, .int p1), (2, .long v2)]) hx hb dX0_become_162 hl (by decide) rfl (fun ls hl => ?_)
      exact tX0_become_c164 hk C0 hr hlk q_FU (0 : Int32) σ _ _ _ hw (lv_sub hl [1, 2, 0] rfl) h
    · replace h := q_f h c1
      refine lv_iconst (v := (0 : Int32)) hx hb dX0_become_83 (by decide) ?_
      refine lv_istore (lv' := [(5, .int (0 : Int32)), (0, .ref (ad k)), (1, .int p1), (2, .long v2), (4, .int v4)]) hx hb dX0_become_84 hl (by decide) rfl (fun ls hl => ?_)
      exact tX0_become_c86 hk C0 hr hlk hrec77 q_FU v2 v4 (0 : Int32) σ _ _ _ hw (lv_sub hl [1, 2, 3, 4, 0] rfl) h
set_option maxHeartbeats 4000000 in
set_option maxRecDepth 100000 in
theorem tX0_become_c38 {k : Nat} {p1 : Int32} (hk : xK k = 2) (C0 : CallFix p m c cX0_become 7 s args wsX0_become RX0) (hr : meth.sig.returnType = none) (hlk : meth.locks = false) {out : q_M}  : ∀ (s0 : Int64) (σ : q_M) (H : Heap) (locs : List Loc) (ls : Array Slot), q_H (gX D cI cJ cS ad adK adV) (q_A (gX D cI cJ cS ad adK adV) s.heap.size) s σ H locs → lv_has ls 7 [(0, .ref (ad k)), (1, .int p1)] → fX0_become_c38 k p1 s0 σ = some out → W p l e { frames := 1, cells := 0, slots := 0, locals := 24 } s m args below meth c H locs 0 0 (MQ below (q_Rv (gX D cI cJ cS ad adK adV) (q_A (gX D cI cJ cS ad adK adV) s.heap.size) out) args s 0 0 (q_A (gX D cI cJ cS ad adK adV) s.heap.size)) (F0 m 38 ls [.long s0, .ref (ad k)]) := by
  obtain ⟨hx, hb, hml, hown, hts⟩ := id C0
  intro s0 σ H locs ls  hw hl h
  unfold fX0_become_c38 at h
  refine pt_X0_2 C0 hw hk iX0_become_X0 (by decide +kernel) dX0_become_38 (fun σ1 H locs e_σ1 hw => ?_)
  replace h := q_let_at e_σ1 h
  refine lv_aload_n hx hb dX0_become_41 rfl (lv_at hl 0 rfl) ?_
  refine gt_X0_3 C0 hw hk iX0_become_X0 (by decide +kernel) dX0_become_42 ?_
  refine lv_iconst (v := (0 : Int32)) hx hb dX0_become_45 (by decide) ?_
  refine lv_iconst (v := (1 : Int32)) hx hb dX0_become_46 (by decide) ?_
  obtain ⟨b2, h⟩ := q_if h
  refine q_iast (t0 := 0) C0 hw (xN_3 (xD_2_1 hk)) (xE_3 (xD_2_1 hk)) rfl b2 dX0_become_47 (fun σ3 H locs e_σ3 hw => ?_)
  replace h := q_let_at e_σ3 h
  refine lv_aload_n hx hb dX0_become_48 rfl (lv_at hl 0 rfl) ?_
  refine gt_X0_3 C0 hw hk iX0_become_X0 (by decide +kernel) dX0_become_49 ?_
  refine lv_iconst (v := (1 : Int32)) hx hb dX0_become_52 (by decide) ?_
  refine lv_iload_n hx hb dX0_become_53 rfl (lv_at hl 1 rfl) ?_
  obtain ⟨b4, h⟩ := q_if h
  refine q_iast (t0 := 0) C0 hw (xN_3 (xD_2_1 hk)) (xE_3 (xD_2_1 hk)) rfl b4 dX0_become_54 (fun σ5 H locs e_σ5 hw => ?_)
  replace h := q_let_at e_σ5 h
  refine lv_aload_n hx hb dX0_become_55 rfl (lv_at hl 0 rfl) ?_
  refine gt_X0_3 C0 hw hk iX0_become_X0 (by decide +kernel) dX0_become_56 ?_
  refine lv_iconst (v := (2 : Int32)) hx hb dX0_become_59 (by decide) ?_
  refine lv_iload_n hx hb dX0_become_60 rfl (lv_at hl 1 rfl) ?_
  refine lv_iload_n hx hb dX0_become_61 rfl (lv_at hl 1 rfl) ?_
  refine lv_imul hx hb dX0_become_62 ?_
  obtain ⟨b6, h⟩ := q_if h
  refine q_iast (t0 := 0) C0 hw (xN_3 (xD_2_1 hk)) (xE_3 (xD_2_1 hk)) rfl b6 dX0_become_63 (fun σ7 H locs e_σ7 hw => ?_)
  replace h := q_let_at e_σ7 h
  refine lv_aload_n hx hb dX0_become_64 rfl (lv_at hl 0 rfl) ?_
  refine gt_X0_4 C0 hw hk iX0_become_X0 (by decide +kernel) dX0_become_65 ?_
  refine lv_lconst (v := (0 : Int64)) hx hb dX0_become_68 (by decide) ?_
  obtain ⟨o8, hco8, h⟩ := q_bind h
  refine q_callv hw (va_runS (As := [.ref (ad (k + 2)), .long (0 : Int64)]) (rest := []) C0 (kJ7_fill_d0a16 (t0 := 1) rfl (xN_4 (xD_2_2 hk)) (xE_4 (xD_2_2 hk)) hco8 _) (va_cwS 2 hts gX0_become_J7_fill_d0a16 rfl rfl rfl eJ7_fill_d0a16 ⟨(Nat.le_of_ble_eq_true rfl), (Nat.le_of_ble_eq_true rfl)⟩) ⟨q_blind, q_pre hw⟩ rfl rfl hl.1 rfl (lv_room (Nat.le_of_ble_eq_true rfl)) dX0_become_69 ⟨Nat.zero_le _, Nat.zero_le _⟩) (fun H locs hw => ?_)
  refine lv_lconst (v := (1 : Int64)) hx hb dX0_become_72 (by decide) ?_
  refine lv_lstore_n (lv' := [(2, .long (1 : Int64)), (0, .ref (ad k)), (1, .int p1)]) hx hb dX0_become_73 rfl hl (by decide) rfl (fun ls hl => ?_)
  refine lv_iconst (v := (0 : Int32)) hx hb dX0_become_74 (by decide) ?_
  refine lv_istore (lv' := [(4, .int (0 : Int32)), (2, .long (1 : Int64)), (0, .ref (ad k)), (1, .int p1)]) hx hb dX0_become_75 hl (by decide) rfl (fun ls hl => ?_)
  exact tX0_become_c77 hk C0 hr hlk q_FU (1 : Int64) (0 : Int32) o8 _ _ _ hw (lv_sub hl [2, 3, 1, 0] rfl) h
set_option maxHeartbeats 4000000 in
set_option maxRecDepth 100000 in
theorem kX0_become {k : Nat} {p1 : Int32} (hk : xK k = 2) {σ : q_M} {out : q_M} (h : fX0_become k p1 σ = some out) : q_Mv l (gX D cI cJ cS ad adK adV) yX0_become wsX0_become { frames := 1, cells := 0, slots := 0, locals := 24 } [.ref (ad k), .int p1] σ out := by
  refine q_Mv_of (cc := cX0_become) (maxL := 7) (ret := none) (by decide) rfl (Nat.le_of_ble_eq_true rfl) ?_
  intro p e s m below meth c ls C0 hr hlk hl hw
  obtain ⟨hx, hb, hml, hown, hts⟩ := id C0
  replace hl : lv_has ls 7 [(0, .ref (ad k)), (1, .int p1)] := hl
  unfold fX0_become at h
  refine lv_aload_n hx hb dX0_become_0 rfl (lv_at hl 0 rfl) ?_
  refine lv_iload_n hx hb dX0_become_1 rfl (lv_at hl 1 rfl) ?_
  refine pt_X0_0 C0 hw hk iX0_become_X0 (by decide +kernel) dX0_become_2 (fun σ1 H locs e_σ1 hw => ?_)
  replace h := q_let_at e_σ1 h
  refine lv_aload_n hx hb dX0_become_5 rfl (lv_at hl 0 rfl) ?_
  refine lv_iload_n hx hb dX0_become_6 rfl (lv_at hl 1 rfl) ?_
  refine lv_iload_n hx hb dX0_become_7 rfl (lv_at hl 1 rfl) ?_
  refine lv_imul hx hb dX0_become_8 ?_
  refine lv_iload_n hx hb dX0_become_9 rfl (lv_at hl 1 rfl) ?_
  refine lv_imul hx hb dX0_become_10 ?_
  refine pt_X0_1 C0 hw hk iX0_become_X0 (by decide +kernel) dX0_become_11 (fun σ2 H locs e_σ2 hw => ?_)
  replace h := q_let_at e_σ2 h
  refine lv_aload_n hx hb dX0_become_14 rfl (lv_at hl 0 rfl) ?_
  refine lv_aload_n hx hb dX0_become_15 rfl (lv_at hl 0 rfl) ?_
  refine gt_X0_1 C0 hw hk iX0_become_X0 (by decide +kernel) dX0_become_16 ?_
  refine lv_bipush (v := (64 : Int32)) hx hb dX0_become_19 (by decide) ?_
  refine lv_icmp_ne (tgt := 30) hx hb dX0_become_21 (by decide) (fun c3 => ?_) (fun c3 => ?_)
  · replace h := q_f h c3
    refine lv_lconst (v := (1 : Int64)) hx hb dX0_become_30 (by decide) ?_
    refine lv_aload_n hx hb dX0_become_31 rfl (lv_at hl 0 rfl) ?_
    refine gt_X0_1 C0 hw hk iX0_become_X0 (by decide +kernel) dX0_become_32 ?_
    refine lv_lshl (v := (q_shl (1 : Int64) (σ2.1 k 1))) hx hb dX0_become_35 rfl ?_
    refine lv_lconst (v := (1 : Int64)) hx hb dX0_become_36 (by decide) ?_
    refine lv_lsub hx hb dX0_become_37 ?_
    exact tX0_become_c38 hk C0 hr hlk ((q_shl (1 : Int64) (σ2.1 k 1)) - (1 : Int64)) σ2 _ _ _ hw (lv_sub hl [0, 1] rfl) h
  · replace h := q_t h c3
    refine lv_ldc2 (v := (-1 : Int64)) hx hb hown (hts (.constantLong RX0 33 (-1)) (by decide +kernel)) dX0_become_24 ?_
    refine lv_goto (tgt := 38) hx hb dX0_become_27 (by decide) ?_
    exact tX0_become_c38 hk C0 hr hlk (-1 : Int64) σ2 _ _ _ hw (lv_sub hl [0, 1] rfl) h
-- X0_below below(II)J
set_option maxHeartbeats 4000000 in
set_option maxRecDepth 100000 in
theorem tX0_below_c5 {k : Nat} {p1 : Int32} {p2 : Int32} (hk : xK k = 2) (C0 : CallFix p m c cX0_below 6 s args wsX0_below RX0) (hr : meth.sig.returnType = (some .long)) (hlk : meth.locks = false) {out : Int64 × q_M}  : ∀ n : Nat, ∀ (v3 : Int64) (v5 : Int32) (σ : q_M) (H : Heap) (locs : List Loc) (ls : Array Slot), q_H (gX D cI cJ cS ad adK adV) (q_A (gX D cI cJ cS ad adK adV) s.heap.size) s σ H locs → lv_has ls 6 [(0, .ref (ad k)), (1, .int p1), (2, .int p2), (3, .long v3), (5, .int v5)] → fX0_below_c5 k p1 p2 n v3 v5 σ = some out → W p l e { frames := 1, cells := 0, slots := 0, locals := 22 } s m args below meth c H locs 0 0 (MQ below (q_Rl (gX D cI cJ cS ad adK adV) (q_A (gX D cI cJ cS ad adK adV) s.heap.size) out) args s 0 0 (q_A (gX D cI cJ cS ad adK adV) s.heap.size)) (F0 m 5 ls []) := by
  obtain ⟨hx, hb, hml, hown, hts⟩ := id C0
  intro n
  induction n with
  | zero =>
    intro v3 v5 σ H locs ls  hw hl h
    cases (show (none : Option (Int64 × q_M)) = some out from h)
  | succ n hrec5 =>
    intro v3 v5 σ H locs ls  hw hl h
    replace h : fX0_below_c5b k p1 p2 (fX0_below_c5 k p1 p2 n) v3 v5 σ = some out := h
    unfold fX0_below_c5b at h
    refine lv_iload hx hb dX0_below_5 (lv_at hl 4 rfl) ?_
    refine lv_iload_n hx hb dX0_below_7 rfl (lv_at hl 2 rfl) ?_
    refine lv_icmp_ge (tgt := 27) hx hb dX0_below_8 (by decide) (fun c1 => ?_) (fun c1 => ?_)
    · replace h := q_t h c1
      refine lv_lload_n hx hb dX0_below_27 rfl (lv_at hl 3 rfl) ?_
      exact q_lret h C0 hr hlk hw dX0_below_28
    · replace h := q_f h c1
      refine lv_lload_n hx hb dX0_below_11 rfl (lv_at hl 3 rfl) ?_
      refine lv_aload_n hx hb dX0_below_12 rfl (lv_at hl 0 rfl) ?_
      refine lv_iload_n hx hb dX0_below_13 rfl (lv_at hl 1 rfl) ?_
      refine lv_iload hx hb dX0_below_14 (lv_at hl 4 rfl) ?_
      obtain ⟨o2, hco2, h⟩ := q_bind h
      refine q_calll hw (va_runV (As := [.int p1, .int v5]) (rest := [.long v3]) C0 (kX0_layer hk hco2 _) (cwV 2 hts gX0_below_X0_layer rfl rfl rfl eX0_layer ⟨(Nat.le_of_ble_eq_true rfl), (Nat.le_of_ble_eq_true rfl)⟩) ⟨q_blind, q_recv hw (xN_2 hk) (xE_2 hk) rfl, q_pre hw⟩ rfl rfl hl.1 rfl (lv_room (Nat.le_of_ble_eq_true rfl)) dX0_below_16 ⟨Nat.zero_le _, Nat.zero_le _⟩) (fun H locs hw => ?_)
      refine lv_lor hx hb dX0_below_19 ?_
      refine lv_lstore_n (lv' := [(3, .long (v3 ||| o2.1)), (0, .ref (ad k)), (1, .int p1), (2, .int p2), (5, .int v5)]) hx hb dX0_below_20 rfl hl (by decide) rfl (fun ls hl => ?_)
      refine lv_iinc (v := (v5 + (1 : Int32))) (lv' := [(5, .int (v5 + (1 : Int32))), (3, .long (v3 ||| o2.1)), (0, .ref (ad k)), (1, .int p1), (2, .int p2)]) hx hb dX0_below_21 hl (k := 4) rfl rfl (by decide) rfl (fun ls hl => ?_)
      refine lv_goto (tgt := 5) hx hb dX0_below_24 (by decide) ?_
      exact hrec5 (v3 ||| o2.1) (v5 + (1 : Int32)) o2.2 _ _ _ hw (lv_sub hl [2, 3, 4, 1, 0] rfl) h
set_option maxHeartbeats 4000000 in
set_option maxRecDepth 100000 in
theorem kX0_below {k : Nat} {p1 : Int32} {p2 : Int32} (hk : xK k = 2) {σ : q_M} {out : Int64 × q_M} (h : fX0_below k p1 p2 σ = some out) : q_Ml l (gX D cI cJ cS ad adK adV) yX0_below wsX0_below { frames := 1, cells := 0, slots := 0, locals := 22 } [.ref (ad k), .int p1, .int p2] σ out := by
  refine q_Ml_of (cc := cX0_below) (maxL := 6) (ret := (some .long)) (by decide) rfl (Nat.le_of_ble_eq_true rfl) ?_
  intro p e s m below meth c ls C0 hr hlk hl hw
  obtain ⟨hx, hb, hml, hown, hts⟩ := id C0
  replace hl : lv_has ls 6 [(0, .ref (ad k)), (1, .int p1), (2, .int p2)] := hl
  unfold fX0_below at h
  refine lv_lconst (v := (0 : Int64)) hx hb dX0_below_0 (by decide) ?_
  refine lv_lstore_n (lv' := [(3, .long (0 : Int64)), (0, .ref (ad k)), (1, .int p1), (2, .int p2)]) hx hb dX0_below_1 rfl hl (by decide) rfl (fun ls hl => ?_)
  refine lv_iconst (v := (0 : Int32)) hx hb dX0_below_2 (by decide) ?_
  refine lv_istore (lv' := [(5, .int (0 : Int32)), (3, .long (0 : Int64)), (0, .ref (ad k)), (1, .int p1), (2, .int p2)]) hx hb dX0_below_3 hl (by decide) rfl (fun ls hl => ?_)
  exact tX0_below_c5 hk C0 hr hlk q_FU (0 : Int64) (0 : Int32) σ _ _ _ hw (lv_sub hl [2, 3, 4, 1, 0] rfl) h
-- X0_place place(II)I
theorem iX0_place_X0 : ∀ w ∈ wsX00, w ∈ wsX0_place := by decide +kernel
set_option maxHeartbeats 4000000 in
set_option maxRecDepth 100000 in
theorem tX0_place_c5 {k : Nat} {p1 : Int32} {p2 : Int32} (hk : xK k = 2) (C0 : CallFix p m c cX0_place 5 s args wsX0_place RX0) (hr : meth.sig.returnType = (some .int)) (hlk : meth.locks = false) {out : Int32 × q_M}  : ∀ n : Nat, ∀ (v3 : Int32) (v4 : Int32) (σ : q_M) (H : Heap) (locs : List Loc) (ls : Array Slot), q_H (gX D cI cJ cS ad adK adV) (q_A (gX D cI cJ cS ad adK adV) s.heap.size) s σ H locs → lv_has ls 5 [(0, .ref (ad k)), (1, .int p1), (2, .int p2), (3, .int v3), (4, .int v4)] → fX0_place_c5 k p1 p2 n v3 v4 σ = some out → W p l e { frames := 1, cells := 0, slots := 0, locals := 22 } s m args below meth c H locs 0 0 (MQ below (q_Ri (gX D cI cJ cS ad adK adV) (q_A (gX D cI cJ cS ad adK adV) s.heap.size) out) args s 0 0 (q_A (gX D cI cJ cS ad adK adV) s.heap.size)) (F0 m 5 ls []) := by
  obtain ⟨hx, hb, hml, hown, hts⟩ := id C0
  intro n
  induction n with
  | zero =>
    intro v3 v4 σ H locs ls  hw hl h
    cases (show (none : Option (Int32 × q_M)) = some out from h)
  | succ n hrec5 =>
    intro v3 v4 σ H locs ls  hw hl h
    replace h : fX0_place_c5b k p1 p2 (fX0_place_c5 k p1 p2 n) v3 v4 σ = some out := h
    unfold fX0_place_c5b at h
    refine lv_iload hx hb dX0_place_5 (lv_at hl 4 rfl) ?_
    refine lv_aload_n hx hb dX0_place_7 rfl (lv_at hl 0 rfl) ?_
    refine gt_X0_0 C0 hw hk iX0_place_X0 (by decide +kernel) dX0_place_8 ?_
    refine lv_icmp_ge (tgt := 39) hx hb dX0_place_11 (by decide) (fun c1 => ?_) (fun c1 => ?_)
    · replace h := q_t h c1
      refine lv_iload_n hx hb dX0_place_39 rfl (lv_at hl 3 rfl) ?_
      exact q_iret h C0 hr hlk hw dX0_place_40
    · replace h := q_f h c1
      refine lv_aload_n hx hb dX0_place_14 rfl (lv_at hl 0 rfl) ?_
      refine lv_iload_n hx hb dX0_place_15 rfl (lv_at hl 2 rfl) ?_
      refine lv_iload hx hb dX0_place_16 (lv_at hl 4 rfl) ?_
      obtain ⟨o2, hco2, h⟩ := q_bind h
      refine q_calll hw (va_runV (As := [.int p2, .int v4]) (rest := []) C0 (kX0_layer hk hco2 _) (cwV 2 hts gX0_place_X0_layer rfl rfl rfl eX0_layer ⟨(Nat.le_of_ble_eq_true rfl), (Nat.le_of_ble_eq_true rfl)⟩) ⟨q_blind, q_recv hw (xN_2 hk) (xE_2 hk) rfl, q_pre hw⟩ rfl rfl hl.1 rfl (lv_room (Nat.le_of_ble_eq_true rfl)) dX0_place_18 ⟨Nat.zero_le _, Nat.zero_le _⟩) (fun H locs hw => ?_)
      refine lv_iload_n hx hb dX0_place_21 rfl (lv_at hl 1 rfl) ?_
      refine lv_lushr (v := (q_ushr o2.1 p1)) hx hb dX0_place_22 rfl ?_
      refine lv_lconst (v := (1 : Int64)) hx hb dX0_place_23 (by decide) ?_
      refine lv_land hx hb dX0_place_24 ?_
      refine lv_lconst (v := (0 : Int64)) hx hb dX0_place_25 (by decide) ?_
      refine q_lcmp_eq (tgt := 33) C0 dX0_place_26 dX0_place_27 (by decide) (fun c3 => ?_) (fun c3 => ?_)
      · replace h := q_t h c3
        refine lv_iinc (v := (v4 + (1 : Int32))) (lv' := [(4, .int (v4 + (1 : Int32))), (0, .ref (ad k)), (1, .int p1), (2, .int p2), (3, .int v3)]) hx hb dX0_place_33 hl (k := 4) rfl rfl (by decide) rfl (fun ls hl => ?_)
        refine lv_goto (tgt := 5) hx hb dX0_place_36 (by decide) ?_
        exact hrec5 v3 (v4 + (1 : Int32)) o2.2 _ _ _ hw (lv_sub hl [1, 2, 3, 4, 0] rfl) h
      · replace h := q_f h c3
        refine lv_iload hx hb dX0_place_30 (lv_at hl 4 rfl) ?_
        refine lv_istore_n (lv' := [(3, .int v4), (0, .ref (ad k)), (1, .int p1), (2, .int p2), (4, .int v4)]) hx hb dX0_place_32 rfl hl (by decide) rfl (fun ls hl => ?_)
        refine lv_iinc (v := (v4 + (1 : Int32))) (lv' := [(4, .int (v4 + (1 : Int32))), (3, .int v4), (0, .ref (ad k)), (1, .int p1), (2, .int p2)]) hx hb dX0_place_33 hl (k := 4) rfl rfl (by decide) rfl (fun ls hl => ?_)
        refine lv_goto (tgt := 5) hx hb dX0_place_36 (by decide) ?_
        exact hrec5 v4 (v4 + (1 : Int32)) o2.2 _ _ _ hw (lv_sub hl [2, 3, 4, 1, 0] rfl) h
set_option maxHeartbeats 4000000 in
set_option maxRecDepth 100000 in
theorem kX0_place {k : Nat} {p1 : Int32} {p2 : Int32} (hk : xK k = 2) {σ : q_M} {out : Int32 × q_M} (h : fX0_place k p1 p2 σ = some out) : q_Mi l (gX D cI cJ cS ad adK adV) yX0_place wsX0_place { frames := 1, cells := 0, slots := 0, locals := 22 } [.ref (ad k), .int p1, .int p2] σ out := by
  refine q_Mi_of (cc := cX0_place) (maxL := 5) (ret := (some .int)) (by decide) rfl (Nat.le_of_ble_eq_true rfl) ?_
  intro p e s m below meth c ls C0 hr hlk hl hw
  obtain ⟨hx, hb, hml, hown, hts⟩ := id C0
  replace hl : lv_has ls 5 [(0, .ref (ad k)), (1, .int p1), (2, .int p2)] := hl
  unfold fX0_place at h
  refine lv_iconst (v := (0 : Int32)) hx hb dX0_place_0 (by decide) ?_
  refine lv_istore_n (lv' := [(3, .int (0 : Int32)), (0, .ref (ad k)), (1, .int p1), (2, .int p2)]) hx hb dX0_place_1 rfl hl (by decide) rfl (fun ls hl => ?_)
  refine lv_iconst (v := (0 : Int32)) hx hb dX0_place_2 (by decide) ?_
  refine lv_istore (lv' := [(4, .int (0 : Int32)), (3, .int (0 : Int32)), (0, .ref (ad k)), (1, .int p1), (2, .int p2)]) hx hb dX0_place_3 hl (by decide) rfl (fun ls hl => ?_)
  exact tX0_place_c5 hk C0 hr hlk q_FU (0 : Int32) (0 : Int32) σ _ _ _ hw (lv_sub hl [2, 3, 4, 1, 0] rfl) h
-- X0_boxOf boxOf(II)J
theorem iX0_boxOf_X0 : ∀ w ∈ wsX00, w ∈ wsX0_boxOf := by decide +kernel
theorem eX0_below : yX0_below.cls = RX0 ∧ yX0_below.cls ≠ "java/lang/invoke/MethodHandle" ∧ yX0_below.cls ≠ "java/lang/invoke/VarHandle" ∧ (parseMethodDescriptor yX0_below.desc).map (fun d => d.parameters.length) = some 2 := by decide +kernel
theorem eX0_place : yX0_place.cls = RX0 ∧ yX0_place.cls ≠ "java/lang/invoke/MethodHandle" ∧ yX0_place.cls ≠ "java/lang/invoke/VarHandle" ∧ (parseMethodDescriptor yX0_place.desc).map (fun d => d.parameters.length) = some 2 := by decide +kernel
set_option maxHeartbeats 4000000 in
set_option maxRecDepth 100000 in
theorem tX0_boxOf_c8 {k : Nat} {p1 : Int32} {p2 : Int32} (hk : xK k = 2) (C0 : CallFix p m c cX0_boxOf 8 s args wsX0_boxOf RX0) (hr : meth.sig.returnType = (some .long)) (hlk : meth.locks = false) {out : Int64 × q_M}  : ∀ n : Nat, ∀ (v3 : Int64) (v5 : Int32) (σ : q_M) (H : Heap) (locs : List Loc) (ls : Array Slot), q_H (gX D cI cJ cS ad adK adV) (q_A (gX D cI cJ cS ad adK adV) s.heap.size) s σ H locs → lv_has ls 8 [(0, .ref (ad k)), (1, .int p1), (2, .int p2), (3, .long v3), (5, .int v5)] → fX0_boxOf_c8 k p1 p2 n v3 v5 σ = some out → W p l e { frames := 2, cells := 0, slots := 0, locals := 47 } s m args below meth c H locs 0 0 (MQ below (q_Rl (gX D cI cJ cS ad adK adV) (q_A (gX D cI cJ cS ad adK adV) s.heap.size) out) args s 0 0 (q_A (gX D cI cJ cS ad adK adV) s.heap.size)) (F0 m 8 ls []) := by
  obtain ⟨hx, hb, hml, hown, hts⟩ := id C0
  intro n
  induction n with
  | zero =>
    intro v3 v5 σ H locs ls  hw hl h
    cases (show (none : Option (Int64 × q_M)) = some out from h)
  | succ n hrec8 =>
    intro v3 v5 σ H locs ls  hw hl h
    replace h : fX0_boxOf_c8b k p1 p2 (fX0_boxOf_c8 k p1 p2 n) v3 v5 σ = some out := h
    unfold fX0_boxOf_c8b at h
    refine lv_iload hx hb dX0_boxOf_8 (lv_at hl 4 rfl) ?_
    refine lv_iconst (v := (3 : Int32)) hx hb dX0_boxOf_10 (by decide) ?_
    refine lv_icmp_ge (tgt := 84) hx hb dX0_boxOf_11 (by decide) (fun c1 => ?_) (fun c1 => ?_)
    · replace h := q_t h c1
      refine lv_lload_n hx hb dX0_boxOf_84 rfl (lv_at hl 3 rfl) ?_
      exact q_lret h C0 hr hlk hw dX0_boxOf_85
    · replace h := q_f h c1
      refine lv_aload_n hx hb dX0_boxOf_14 rfl (lv_at hl 0 rfl) ?_
      refine lv_iload_n hx hb dX0_boxOf_15 rfl (lv_at hl 1 rfl) ?_
      refine lv_iload hx hb dX0_boxOf_16 (lv_at hl 4 rfl) ?_
      obtain ⟨o2, hco2, h⟩ := q_bind h
      refine q_calli hw (va_runV (As := [.int p1, .int v5]) (rest := []) C0 (kX0_place hk hco2 _) (cwV 2 hts gX0_boxOf_X0_place rfl rfl rfl eX0_place ⟨(Nat.le_of_ble_eq_true rfl), (Nat.le_of_ble_eq_true rfl)⟩) ⟨q_blind, q_recv hw (xN_2 hk) (xE_2 hk) rfl, q_pre hw⟩ rfl rfl hl.1 rfl (lv_room (Nat.le_of_ble_eq_true rfl)) dX0_boxOf_18 ⟨Nat.zero_le _, Nat.zero_le _⟩) (fun H locs hw => ?_)
      refine lv_aload_n hx hb dX0_boxOf_21 rfl (lv_at hl 0 rfl) ?_
      refine lv_iload_n hx hb dX0_boxOf_22 rfl (lv_at hl 2 rfl) ?_
      refine lv_iload hx hb dX0_boxOf_23 (lv_at hl 4 rfl) ?_
      obtain ⟨o3, hco3, h⟩ := q_bind h
      refine q_calli hw (va_runV (As := [.int p2, .int v5]) (rest := [.int o2.1]) C0 (kX0_place hk hco3 _) (cwV 2 hts gX0_boxOf_X0_place rfl rfl rfl eX0_place ⟨(Nat.le_of_ble_eq_true rfl), (Nat.le_of_ble_eq_true rfl)⟩) ⟨q_blind, q_recv hw (xN_2 hk) (xE_2 hk) rfl, q_pre hw⟩ rfl rfl hl.1 rfl (lv_room (Nat.le_of_ble_eq_true rfl)) dX0_boxOf_25 ⟨Nat.zero_le _, Nat.zero_le _⟩) (fun H locs hw => ?_)
      refine va_mmin hx hb (hml.trans hl.1.symm) hown (hts (.methodLink RX0 53 Lib.Math.min.name) (by decide +kernel)) (hts (.static Lib.Math.min.name) (by decide +kernel)) (hts (.initialized "java/lang/Math") (by decide +kernel)) (hts (.code Lib.Math.min.name Lib.Math.min.code 2 (some .int)) (by decide +kernel)) (Nat.le_of_ble_eq_true rfl) (Nat.le_of_ble_eq_true rfl) (Nat.le_of_ble_eq_true rfl) (Nat.le_of_ble_eq_true rfl) dX0_boxOf_28 ?_
      refine lv_topi (fun x4 e_x4 => ?_)
      replace h := q_let_at e_x4 h
      refine lv_istore (lv' := [(6, .int x4), (0, .ref (ad k)), (1, .int p1), (2, .int p2), (3, .long v3), (5, .int v5)]) hx hb dX0_boxOf_31 hl (by decide) rfl (fun ls hl => ?_)
      refine lv_aload_n hx hb dX0_boxOf_33 rfl (lv_at hl 1 rfl) ?_
      refine lv_iload_n hx hb dX0_boxOf_34 rfl (lv_at hl 2 rfl) ?_
      refine lv_iload hx hb dX0_boxOf_35 (lv_at hl 5 rfl) ?_
      obtain ⟨o5, hco5, h⟩ := q_bind h
      refine q_calli hw (va_runV (As := [.int p1, .int v5]) (rest := []) C0 (kX0_place hk hco5 _) (cwV 2 hts gX0_boxOf_X0_place rfl rfl rfl eX0_place ⟨(Nat.le_of_ble_eq_true rfl), (Nat.le_of_ble_eq_true rfl)⟩) ⟨q_blind, q_recv hw (xN_2 hk) (xE_2 hk) rfl, q_pre hw⟩ rfl rfl hl.1 rfl (lv_room (Nat.le_of_ble_eq_true rfl)) dX0_boxOf_37 ⟨Nat.zero_le _, Nat.zero_le _⟩) (fun H locs hw => ?_)
      refine lv_aload_n hx hb dX0_boxOf_40 rfl (lv_at hl 1 rfl) ?_
      refine lv_iload_n hx hb dX0_boxOf_41 rfl (lv_at hl 3 rfl) ?_
      refine lv_iload hx hb dX0_boxOf_42 (lv_at hl 5 rfl) ?_
      obtain ⟨o6, hco6, h⟩ := q_bind h
      refine q_calli hw (va_runV (As := [.int p2, .int v5]) (rest := [.int o5.1]) C0 (kX0_place hk hco6 _) (cwV 2 hts gX0_boxOf_X0_place rfl rfl rfl eX0_place ⟨(Nat.le_of_ble_eq_true rfl), (Nat.le_of_ble_eq_true rfl)⟩) ⟨q_blind, q_recv hw (xN_2 hk) (xE_2 hk) rfl, q_pre hw⟩ rfl rfl hl.1 rfl (lv_room (Nat.le_of_ble_eq_true rfl)) dX0_boxOf_44 ⟨Nat.zero_le _, Nat.zero_le _⟩) (fun H locs hw => ?_)
      refine va_mmax hx hb (hml.trans hl.1.symm) hown (hts (.methodLink RX0 58 Lib.Math.max.name) (by decide +kernel)) (hts (.static Lib.Math.max.name) (by decide +kernel)) (hts (.initialized "java/lang/Math") (by decide +kernel)) (hts (.code Lib.Math.max.name Lib.Math.max.code 2 (some .int)) (by decide +kernel)) (Nat.le_of_ble_eq_true rfl) (Nat.le_of_ble_eq_true rfl) (Nat.le_of_ble_eq_true rfl) (Nat.le_of_ble_eq_true rfl) dX0_boxOf_47 ?_
      refine lv_topi (fun x7 e_x7 => ?_)
      replace h := q_let_at e_x7 h
      refine lv_istore (lv' := [(7, .int x7), (6, .int x4), (0, .ref (ad k)), (1, .int p1), (2, .int p2), (3, .long v3), (5, .int v5)]) hx hb dX0_boxOf_50 hl (by decide) rfl (fun ls hl => ?_)
      refine lv_lload_n hx hb dX0_boxOf_52 rfl (lv_at hl 5 rfl) ?_
      refine lv_aload_n hx hb dX0_boxOf_53 rfl (lv_at hl 2 rfl) ?_
      refine lv_iload hx hb dX0_boxOf_54 (lv_at hl 6 rfl) ?_
      refine lv_iload hx hb dX0_boxOf_56 (lv_at hl 0 rfl) ?_
      refine lv_iconst (v := (1 : Int32)) hx hb dX0_boxOf_58 (by decide) ?_
      refine lv_iadd hx hb dX0_boxOf_59 ?_
      obtain ⟨o8, hco8, h⟩ := q_bind h
      refine q_calll hw (va_runV (As := [.int v5, .int (x7 + (1 : Int32))]) (rest := [.long v3]) C0 (kX0_below hk hco8 _) (cwV 2 hts gX0_boxOf_X0_below rfl rfl rfl eX0_below ⟨(Nat.le_of_ble_eq_true rfl), (Nat.le_of_ble_eq_true rfl)⟩) ⟨q_blind, q_recv hw (xN_2 hk) (xE_2 hk) rfl, q_pre hw⟩ rfl rfl hl.1 rfl (lv_room (Nat.le_of_ble_eq_true rfl)) dX0_boxOf_60 ⟨Nat.zero_le _, Nat.zero_le _⟩) (fun H locs hw => ?_)
      refine lv_aload_n hx hb dX0_boxOf_63 rfl (lv_at hl 2 rfl) ?_
      refine lv_iload hx hb dX0_boxOf_64 (lv_at hl 6 rfl) ?_
      refine lv_iload hx hb dX0_boxOf_66 (lv_at hl 1 rfl) ?_
      obtain ⟨o9, hco9, h⟩ := q_bind h
      refine q_calll hw (va_runV (As := [.int v5, .int x4]) (rest := [.long o8.1, .long v3]) C0 (kX0_below hk hco9 _) (cwV 2 hts gX0_boxOf_X0_below rfl rfl rfl eX0_below ⟨(Nat.le_of_ble_eq_true rfl), (Nat.le_of_ble_eq_true rfl)⟩) ⟨q_blind, q_recv hw (xN_2 hk) (xE_2 hk) rfl, q_pre hw⟩ rfl rfl hl.1 rfl (lv_room (Nat.le_of_ble_eq_true rfl)) dX0_boxOf_68 ⟨Nat.zero_le _, Nat.zero_le _⟩) (fun H locs hw => ?_)
      refine lv_ldc2 (v := (-1 : Int64)) hx hb hown (hts (.constantLong RX0 33 (-1)) (by decide +kernel)) dX0_boxOf_71 ?_
      refine lv_lxor hx hb dX0_boxOf_74 ?_
      refine lv_land hx hb dX0_boxOf_75 ?_
      refine lv_land hx hb dX0_boxOf_76 ?_
      refine lv_topl (fun x10 e_x10 => ?_)
      replace h := q_let_at e_x10 h
      refine lv_lstore_n (lv' := [(3, .long x10), (7, .int x7), (6, .int x4), (0, .ref (ad k)), (1, .int p1), (2, .int p2), (5, .int v5)]) hx hb dX0_boxOf_77 rfl hl (by decide) rfl (fun ls hl => ?_)
      refine lv_iinc (v := (v5 + (1 : Int32))) (lv' := [(5, .int (v5 + (1 : Int32))), (3, .long x10), (7, .int x7), (6, .int x4), (0, .ref (ad k)), (1, .int p1), (2, .int p2)]) hx hb dX0_boxOf_78 hl (k := 6) rfl rfl (by decide) rfl (fun ls hl => ?_)
      refine lv_goto (tgt := 8) hx hb dX0_boxOf_81 (by decide) ?_
      exact hrec8 x10 (v5 + (1 : Int32)) o9.2 _ _ _ hw (lv_sub hl [4, 5, 6, 1, 0] rfl) h
set_option maxHeartbeats 4000000 in
set_option maxRecDepth 100000 in
theorem kX0_boxOf {k : Nat} {p1 : Int32} {p2 : Int32} (hk : xK k = 2) {σ : q_M} {out : Int64 × q_M} (h : fX0_boxOf k p1 p2 σ = some out) : q_Ml l (gX D cI cJ cS ad adK adV) yX0_boxOf wsX0_boxOf { frames := 2, cells := 0, slots := 0, locals := 47 } [.ref (ad k), .int p1, .int p2] σ out := by
  refine q_Ml_of (cc := cX0_boxOf) (maxL := 8) (ret := (some .long)) (by decide) rfl (Nat.le_of_ble_eq_true rfl) ?_
  intro p e s m below meth c ls C0 hr hlk hl hw
  obtain ⟨hx, hb, hml, hown, hts⟩ := id C0
  replace hl : lv_has ls 8 [(0, .ref (ad k)), (1, .int p1), (2, .int p2)] := hl
  unfold fX0_boxOf at h
  refine lv_aload_n hx hb dX0_boxOf_0 rfl (lv_at hl 0 rfl) ?_
  refine gt_X0_2 C0 hw hk iX0_boxOf_X0 (by decide +kernel) dX0_boxOf_1 ?_
  refine lv_lstore_n (lv' := [(3, .long (σ.2 k 2)), (0, .ref (ad k)), (1, .int p1), (2, .int p2)]) hx hb dX0_boxOf_4 rfl hl (by decide) rfl (fun ls hl => ?_)
  refine lv_iconst (v := (0 : Int32)) hx hb dX0_boxOf_5 (by decide) ?_
  refine lv_istore (lv' := [(5, .int (0 : Int32)), (3, .long (σ.2 k 2)), (0, .ref (ad k)), (1, .int p1), (2, .int p2)]) hx hb dX0_boxOf_6 hl (by decide) rfl (fun ls hl => ?_)
  exact tX0_boxOf_c8 hk C0 hr hlk q_FU (σ.2 k 2) (0 : Int32) σ _ _ _ hw (lv_sub hl [2, 3, 4, 1, 0] rfl) h
-- X0_endTowards endTowards(I)J
theorem iX0_endTowards_X0 : ∀ w ∈ wsX00, w ∈ wsX0_endTowards := by decide +kernel
set_option maxHeartbeats 4000000 in
set_option maxRecDepth 100000 in
theorem kX0_endTowards {k : Nat} {p1 : Int32} (hk : xK k = 2) {σ : q_M} {out : Int64 × q_M} (h : fX0_endTowards k p1 σ = some out) : q_Ml l (gX D cI cJ cS ad adK adV) yX0_endTowards wsX0_endTowards { frames := 0, cells := 0, slots := 0, locals := 0 } [.ref (ad k), .int p1] σ out := by
  refine q_Ml_of (cc := cX0_endTowards) (maxL := 2) (ret := (some .long)) (by decide) rfl (Nat.le_of_ble_eq_true rfl) ?_
  intro p e s m below meth c ls C0 hr hlk hl hw
  obtain ⟨hx, hb, hml, hown, hts⟩ := id C0
  replace hl : lv_has ls 2 [(0, .ref (ad k)), (1, .int p1)] := hl
  unfold fX0_endTowards at h
  refine lv_aload_n hx hb dX0_endTowards_0 rfl (lv_at hl 0 rfl) ?_
  refine gt_X0_5 C0 hw hk iX0_endTowards_X0 (by decide +kernel) dX0_endTowards_1 ?_
  refine lv_iload_n hx hb dX0_endTowards_4 rfl (lv_at hl 1 rfl) ?_
  obtain ⟨b1, h⟩ := q_if h
  refine q_lald (t0 := 1) C0 hw (xN_5 (xD_2_3 hk)) (xE_5 (xD_2_3 hk)) rfl b1 dX0_endTowards_5 ?_
  exact q_lret h C0 hr hlk hw dX0_endTowards_6
-- X0_shifted shifted(JI)J
theorem iX0_shifted_X0 : ∀ w ∈ wsX00, w ∈ wsX0_shifted := by decide +kernel
set_option maxHeartbeats 4000000 in
set_option maxRecDepth 100000 in
theorem kX0_shifted {k : Nat} {p1 : Int64} {p3 : Int32} (hk : xK k = 2) {σ : q_M} {out : Int64 × q_M} (h : fX0_shifted k p1 p3 σ = some out) : q_Ml l (gX D cI cJ cS ad adK adV) yX0_shifted wsX0_shifted { frames := 0, cells := 0, slots := 0, locals := 0 } [.ref (ad k), .long p1, .int p3] σ out := by
  refine q_Ml_of (cc := cX0_shifted) (maxL := 7) (ret := (some .long)) (by decide) rfl (Nat.le_of_ble_eq_true rfl) ?_
  intro p e s m below meth c ls C0 hr hlk hl hw
  obtain ⟨hx, hb, hml, hown, hts⟩ := id C0
  replace hl : lv_has ls 7 [(0, .ref (ad k)), (1, .long p1), (3, .int p3)] := hl
  unfold fX0_shifted at h
  refine lv_lload_n hx hb dX0_shifted_0 rfl (lv_at hl 1 rfl) ?_
  refine lv_aload_n hx hb dX0_shifted_1 rfl (lv_at hl 0 rfl) ?_
  refine gt_X0_5 C0 hw hk iX0_shifted_X0 (by decide +kernel) dX0_shifted_2 ?_
  refine lv_iload_n hx hb dX0_shifted_5 rfl (lv_at hl 2 rfl) ?_
  obtain ⟨b1, h⟩ := q_if h
  refine q_lald (t0 := 1) C0 hw (xN_5 (xD_2_3 hk)) (xE_5 (xD_2_3 hk)) rfl b1 dX0_shifted_6 ?_
  refine lv_ldc2 (v := (-1 : Int64)) hx hb hown (hts (.constantLong RX0 33 (-1)) (by decide +kernel)) dX0_shifted_7 ?_
  refine lv_lxor hx hb dX0_shifted_10 ?_
  refine lv_land hx hb dX0_shifted_11 ?_
  refine lv_topl (fun x2 e_x2 => ?_)
  replace h := q_let_at e_x2 h
  refine lv_lstore (lv' := [(4, .long x2), (0, .ref (ad k)), (1, .long p1), (3, .int p3)]) hx hb dX0_shifted_12 hl (by decide) rfl (fun ls hl => ?_)
  refine lv_aload_n hx hb dX0_shifted_14 rfl (lv_at hl 1 rfl) ?_
  refine gt_X0_3 C0 hw hk iX0_shifted_X0 (by decide +kernel) dX0_shifted_15 ?_
  refine lv_iload_n hx hb dX0_shifted_18 rfl (lv_at hl 3 rfl) ?_
  refine lv_iconst (v := (1 : Int32)) hx hb dX0_shifted_19 (by decide) ?_
  refine q_ishr (v := (q_sr p3 (1 : Int32))) C0 dX0_shifted_20 rfl ?_
  obtain ⟨b3, h⟩ := q_if h
  refine q_iald (t0 := 0) C0 hw (xN_3 (xD_2_1 hk)) (xE_3 (xD_2_1 hk)) rfl b3 dX0_shifted_21 ?_
  refine lv_topi (fun x4 e_x4 => ?_)
  replace h := q_let_at e_x4 h
  refine lv_istore (lv' := [(6, .int x4), (4, .long x2), (0, .ref (ad k)), (1, .long p1), (3, .int p3)]) hx hb dX0_shifted_22 hl (by decide) rfl (fun ls hl => ?_)
  refine lv_iload_n hx hb dX0_shifted_24 rfl (lv_at hl 4 rfl) ?_
  refine lv_iconst (v := (1 : Int32)) hx hb dX0_shifted_25 (by decide) ?_
  refine lv_iand hx hb dX0_shifted_26 ?_
  refine lv_if_ne (tgt := 38) hx hb dX0_shifted_27 (by decide) (fun c5 => ?_) (fun c5 => ?_)
  · replace h := q_f h c5
    refine lv_lload hx hb dX0_shifted_38 (lv_at hl 1 rfl) ?_
    refine lv_iload hx hb dX0_shifted_40 (lv_at hl 0 rfl) ?_
    refine lv_lushr (v := (q_ushr x2 x4)) hx hb dX0_shifted_42 rfl ?_
    exact q_lret h C0 hr hlk hw dX0_shifted_43
  · replace h := q_t h c5
    refine lv_lload hx hb dX0_shifted_30 (lv_at hl 1 rfl) ?_
    refine lv_iload hx hb dX0_shifted_32 (lv_at hl 0 rfl) ?_
    refine lv_lshl (v := (q_shl x2 x4)) hx hb dX0_shifted_34 rfl ?_
    refine lv_goto (tgt := 43) hx hb dX0_shifted_35 (by decide) ?_
    exact q_lret h C0 hr hlk hw dX0_shifted_43
-- X0_behind behind(JI)J
theorem iX0_behind_X0 : ∀ w ∈ wsX00, w ∈ wsX0_behind := by decide +kernel
theorem eX0_shifted : yX0_shifted.cls = RX0 ∧ yX0_shifted.cls ≠ "java/lang/invoke/MethodHandle" ∧ yX0_shifted.cls ≠ "java/lang/invoke/VarHandle" ∧ (parseMethodDescriptor yX0_shifted.desc).map (fun d => d.parameters.length) = some 2 := by decide +kernel
set_option maxHeartbeats 4000000 in
set_option maxRecDepth 100000 in
theorem tX0_behind_c9 {k : Nat} {p1 : Int64} {p3 : Int32} (hk : xK k = 2) (C0 : CallFix p m c cX0_behind 9 s args wsX0_behind RX0) (hr : meth.sig.returnType = (some .long)) (hlk : meth.locks = false) {out : Int64 × q_M}  : ∀ n : Nat, ∀ (v4 : Int64) (v6 : Int64) (v8 : Int32) (σ : q_M) (H : Heap) (locs : List Loc) (ls : Array Slot), q_H (gX D cI cJ cS ad adK adV) (q_A (gX D cI cJ cS ad adK adV) s.heap.size) s σ H locs → lv_has ls 9 [(0, .ref (ad k)), (3, .int p3), (4, .long v4), (6, .long v6), (8, .int v8)] → fX0_behind_c9 k p1 p3 n v4 v6 v8 σ = some out → W p l e { frames := 1, cells := 0, slots := 0, locals := 26 } s m args below meth c H locs 0 0 (MQ below (q_Rl (gX D cI cJ cS ad adK adV) (q_A (gX D cI cJ cS ad adK adV) s.heap.size) out) args s 0 0 (q_A (gX D cI cJ cS ad adK adV) s.heap.size)) (F0 m 9 ls []) := by
  obtain ⟨hx, hb, hml, hown, hts⟩ := id C0
  intro n
  induction n with
  | zero =>
    intro v4 v6 v8 σ H locs ls  hw hl h
    cases (show (none : Option (Int64 × q_M)) = some out from h)
  | succ n hrec9 =>
    intro v4 v6 v8 σ H locs ls  hw hl h
    replace h : fX0_behind_c9b k p1 p3 (fX0_behind_c9 k p1 p3 n) v4 v6 v8 σ = some out := h
    unfold fX0_behind_c9b at h
    refine lv_iload hx hb dX0_behind_9 (lv_at hl 4 rfl) ?_
    refine lv_aload_n hx hb dX0_behind_11 rfl (lv_at hl 0 rfl) ?_
    refine gt_X0_0 C0 hw hk iX0_behind_X0 (by decide +kernel) dX0_behind_12 ?_
    refine lv_icmp_ge (tgt := 42) hx hb dX0_behind_15 (by decide) (fun c1 => ?_) (fun c1 => ?_)
    · replace h := q_t h c1
      refine lv_lload hx hb dX0_behind_42 (lv_at hl 2 rfl) ?_
      exact q_lret h C0 hr hlk hw dX0_behind_44
    · replace h := q_f h c1
      refine lv_aload_n hx hb dX0_behind_18 rfl (lv_at hl 0 rfl) ?_
      refine lv_lload hx hb dX0_behind_19 (lv_at hl 3 rfl) ?_
      refine lv_iload_n hx hb dX0_behind_21 rfl (lv_at hl 1 rfl) ?_
      refine lv_iconst (v := (1 : Int32)) hx hb dX0_behind_22 (by decide) ?_
      refine lv_ixor hx hb dX0_behind_23 ?_
      obtain ⟨o2, hco2, h⟩ := q_bind h
      refine q_calll hw (va_runV (As := [.long v6, .int (p3 ^^^ (1 : Int32))]) (rest := []) C0 (kX0_shifted hk hco2 _) (cwV 2 hts gX0_behind_X0_shifted rfl rfl rfl eX0_shifted ⟨(Nat.le_of_ble_eq_true rfl), (Nat.le_of_ble_eq_true rfl)⟩) ⟨q_blind, q_recv hw (xN_2 hk) (xE_2 hk) rfl, q_pre hw⟩ rfl rfl hl.1 rfl (lv_room (Nat.le_of_ble_eq_true rfl)) dX0_behind_24 ⟨Nat.zero_le _, Nat.zero_le _⟩) (fun H locs hw => ?_)
      refine lv_lstore (lv' := [(6, .long o2.1), (0, .ref (ad k)), (3, .int p3), (4, .long v4), (8, .int v8)]) hx hb dX0_behind_27 hl (by decide) rfl (fun ls hl => ?_)
      refine lv_lload hx hb dX0_behind_29 (lv_at hl 3 rfl) ?_
      refine lv_lload hx hb dX0_behind_31 (lv_at hl 0 rfl) ?_
      refine lv_lor hx hb dX0_behind_33 ?_
      refine lv_lstore (lv' := [(4, .long (v4 ||| o2.1)), (6, .long o2.1), (0, .ref (ad k)), (3, .int p3), (8, .int v8)]) hx hb dX0_behind_34 hl (by decide) rfl (fun ls hl => ?_)
      refine lv_iinc (v := (v8 + (1 : Int32))) (lv' := [(8, .int (v8 + (1 : Int32))), (4, .long (v4 ||| o2.1)), (6, .long o2.1), (0, .ref (ad k)), (3, .int p3)]) hx hb dX0_behind_36 hl (k := 4) rfl rfl (by decide) rfl (fun ls hl => ?_)
      refine lv_goto (tgt := 9) hx hb dX0_behind_39 (by decide) ?_
      exact hrec9 (v4 ||| o2.1) o2.1 (v8 + (1 : Int32)) o2.2 _ _ _ hw (lv_sub hl [3, 4, 1, 2, 0] rfl) h
set_option maxHeartbeats 4000000 in
set_option maxRecDepth 100000 in
theorem kX0_behind {k : Nat} {p1 : Int64} {p3 : Int32} (hk : xK k = 2) {σ : q_M} {out : Int64 × q_M} (h : fX0_behind k p1 p3 σ = some out) : q_Ml l (gX D cI cJ cS ad adK adV) yX0_behind wsX0_behind { frames := 1, cells := 0, slots := 0, locals := 26 } [.ref (ad k), .long p1, .int p3] σ out := by
  refine q_Ml_of (cc := cX0_behind) (maxL := 9) (ret := (some .long)) (by decide) rfl (Nat.le_of_ble_eq_true rfl) ?_
  intro p e s m below meth c ls C0 hr hlk hl hw
  obtain ⟨hx, hb, hml, hown, hts⟩ := id C0
  replace hl : lv_has ls 9 [(0, .ref (ad k)), (1, .long p1), (3, .int p3)] := hl
  unfold fX0_behind at h
  refine lv_lconst (v := (0 : Int64)) hx hb dX0_behind_0 (by decide) ?_
  refine lv_lstore (lv' := [(4, .long (0 : Int64)), (0, .ref (ad k)), (1, .long p1), (3, .int p3)]) hx hb dX0_behind_1 hl (by decide) rfl (fun ls hl => ?_)
  refine lv_lload_n hx hb dX0_behind_3 rfl (lv_at hl 2 rfl) ?_
  refine lv_lstore (lv' := [(6, .long p1), (4, .long (0 : Int64)), (0, .ref (ad k)), (1, .long p1), (3, .int p3)]) hx hb dX0_behind_4 hl (by decide) rfl (fun ls hl => ?_)
  refine lv_iconst (v := (1 : Int32)) hx hb dX0_behind_6 (by decide) ?_
  refine lv_istore (lv' := [(8, .int (1 : Int32)), (6, .long p1), (4, .long (0 : Int64)), (0, .ref (ad k)), (1, .long p1), (3, .int p3)]) hx hb dX0_behind_7 hl (by decide) rfl (fun ls hl => ?_)
  exact tX0_behind_c9 hk C0 hr hlk q_FU (0 : Int64) p1 (1 : Int32) σ _ _ _ hw (lv_sub hl [3, 5, 2, 1, 0] rfl) h
-- X0_beside beside(J)J
set_option maxHeartbeats 4000000 in
set_option maxRecDepth 100000 in
theorem tX0_beside_c5 {k : Nat} {p1 : Int64} (hk : xK k = 2) (C0 : CallFix p m c cX0_beside 6 s args wsX0_beside RX0) (hr : meth.sig.returnType = (some .long)) (hlk : meth.locks = false) {out : Int64 × q_M}  : ∀ n : Nat, ∀ (v3 : Int64) (v5 : Int32) (σ : q_M) (H : Heap) (locs : List Loc) (ls : Array Slot), q_H (gX D cI cJ cS ad adK adV) (q_A (gX D cI cJ cS ad adK adV) s.heap.size) s σ H locs → lv_has ls 6 [(0, .ref (ad k)), (1, .long p1), (3, .long v3), (5, .int v5)] → fX0_beside_c5 k p1 n v3 v5 σ = some out → W p l e { frames := 1, cells := 0, slots := 0, locals := 26 } s m args below meth c H locs 0 0 (MQ below (q_Rl (gX D cI cJ cS ad adK adV) (q_A (gX D cI cJ cS ad adK adV) s.heap.size) out) args s 0 0 (q_A (gX D cI cJ cS ad adK adV) s.heap.size)) (F0 m 5 ls []) := by
  obtain ⟨hx, hb, hml, hown, hts⟩ := id C0
  intro n
  induction n with
  | zero =>
    intro v3 v5 σ H locs ls  hw hl h
    cases (show (none : Option (Int64 × q_M)) = some out from h)
  | succ n hrec5 =>
    intro v3 v5 σ H locs ls  hw hl h
    replace h : fX0_beside_c5b k p1 (fX0_beside_c5 k p1 n) v3 v5 σ = some out := h
    unfold fX0_beside_c5b at h
    refine lv_iload hx hb dX0_beside_5 (lv_at hl 3 rfl) ?_
    refine lv_bipush (v := (6 : Int32)) hx hb dX0_beside_7 (by decide) ?_
    refine lv_icmp_ge (tgt := 28) hx hb dX0_beside_9 (by decide) (fun c1 => ?_) (fun c1 => ?_)
    · replace h := q_t h c1
      refine lv_lload_n hx hb dX0_beside_28 rfl (lv_at hl 2 rfl) ?_
      exact q_lret h C0 hr hlk hw dX0_beside_29
    · replace h := q_f h c1
      refine lv_lload_n hx hb dX0_beside_12 rfl (lv_at hl 2 rfl) ?_
      refine lv_aload_n hx hb dX0_beside_13 rfl (lv_at hl 0 rfl) ?_
      refine lv_lload_n hx hb dX0_beside_14 rfl (lv_at hl 1 rfl) ?_
      refine lv_iload hx hb dX0_beside_15 (lv_at hl 3 rfl) ?_
      obtain ⟨o2, hco2, h⟩ := q_bind h
      refine q_calll hw (va_runV (As := [.long p1, .int v5]) (rest := [.long v3]) C0 (kX0_shifted hk hco2 _) (cwV 2 hts gX0_beside_X0_shifted rfl rfl rfl eX0_shifted ⟨(Nat.le_of_ble_eq_true rfl), (Nat.le_of_ble_eq_true rfl)⟩) ⟨q_blind, q_recv hw (xN_2 hk) (xE_2 hk) rfl, q_pre hw⟩ rfl rfl hl.1 rfl (lv_room (Nat.le_of_ble_eq_true rfl)) dX0_beside_17 ⟨Nat.zero_le _, Nat.zero_le _⟩) (fun H locs hw => ?_)
      refine lv_lor hx hb dX0_beside_20 ?_
      refine lv_lstore_n (lv' := [(3, .long (v3 ||| o2.1)), (0, .ref (ad k)), (1, .long p1), (5, .int v5)]) hx hb dX0_beside_21 rfl hl (by decide) rfl (fun ls hl => ?_)
      refine lv_iinc (v := (v5 + (1 : Int32))) (lv' := [(5, .int (v5 + (1 : Int32))), (3, .long (v3 ||| o2.1)), (0, .ref (ad k)), (1, .long p1)]) hx hb dX0_beside_22 hl (k := 3) rfl rfl (by decide) rfl (fun ls hl => ?_)
      refine lv_goto (tgt := 5) hx hb dX0_beside_25 (by decide) ?_
      exact hrec5 (v3 ||| o2.1) (v5 + (1 : Int32)) o2.2 _ _ _ hw (lv_sub hl [2, 3, 1, 0] rfl) h
set_option maxHeartbeats 4000000 in
set_option maxRecDepth 100000 in
theorem kX0_beside {k : Nat} {p1 : Int64} (hk : xK k = 2) {σ : q_M} {out : Int64 × q_M} (h : fX0_beside k p1 σ = some out) : q_Ml l (gX D cI cJ cS ad adK adV) yX0_beside wsX0_beside { frames := 1, cells := 0, slots := 0, locals := 26 } [.ref (ad k), .long p1] σ out := by
  refine q_Ml_of (cc := cX0_beside) (maxL := 6) (ret := (some .long)) (by decide) rfl (Nat.le_of_ble_eq_true rfl) ?_
  intro p e s m below meth c ls C0 hr hlk hl hw
  obtain ⟨hx, hb, hml, hown, hts⟩ := id C0
  replace hl : lv_has ls 6 [(0, .ref (ad k)), (1, .long p1)] := hl
  unfold fX0_beside at h
  refine lv_lconst (v := (0 : Int64)) hx hb dX0_beside_0 (by decide) ?_
  refine lv_lstore_n (lv' := [(3, .long (0 : Int64)), (0, .ref (ad k)), (1, .long p1)]) hx hb dX0_beside_1 rfl hl (by decide) rfl (fun ls hl => ?_)
  refine lv_iconst (v := (0 : Int32)) hx hb dX0_beside_2 (by decide) ?_
  refine lv_istore (lv' := [(5, .int (0 : Int32)), (3, .long (0 : Int64)), (0, .ref (ad k)), (1, .long p1)]) hx hb dX0_beside_3 hl (by decide) rfl (fun ls hl => ?_)
  exact tX0_beside_c5 hk C0 hr hlk q_FU (0 : Int64) (0 : Int32) σ _ _ _ hw (lv_sub hl [2, 3, 1, 0] rfl) h
-- X0_rowThrough rowThrough(JI)J
theorem iX0_rowThrough_X0 : ∀ w ∈ wsX00, w ∈ wsX0_rowThrough := by decide +kernel
set_option maxHeartbeats 4000000 in
set_option maxRecDepth 100000 in
theorem tX0_rowThrough_c39 {k : Nat} {p1 : Int64} {p3 : Int32} {rec9 : Int64 → Int32 → q_M → Option (Int64 × q_M)} (hk : xK k = 2) (C0 : CallFix p m c cX0_rowThrough 8 s args wsX0_rowThrough RX0) (hr : meth.sig.returnType = (some .long)) (hlk : meth.locks = false) {out : Int64 × q_M} (hrec9 : ∀ (v4 : Int64) (v6 : Int32) (σ : q_M) (H : Heap) (locs : List Loc) (ls : Array Slot), q_H (gX D cI cJ cS ad adK adV) (q_A (gX D cI cJ cS ad adK adV) s.heap.size) s σ H locs → lv_has ls 8 [(0, .ref (ad k)), (1, .long p1), (3, .int p3), (4, .long v4), (6, .int v6)] → rec9 v4 v6 σ = some out → W p l e { frames := 0, cells := 0, slots := 0, locals := 0 } s m args below meth c H locs 0 0 (MQ below (q_Rl (gX D cI cJ cS ad adK adV) (q_A (gX D cI cJ cS ad adK adV) s.heap.size) out) args s 0 0 (q_A (gX D cI cJ cS ad adK adV) s.heap.size)) (F0 m 9 ls [])) : ∀ (v4 : Int64) (v6 : Int32) (s0 : Int32) (σ : q_M) (H : Heap) (locs : List Loc) (ls : Array Slot), q_H (gX D cI cJ cS ad adK adV) (q_A (gX D cI cJ cS ad adK adV) s.heap.size) s σ H locs → lv_has ls 8 [(0, .ref (ad k)), (1, .long p1), (3, .int p3), (4, .long v4), (6, .int v6)] → fX0_rowThrough_c39 k p1 p3 rec9 v4 v6 s0 σ = some out → W p l e { frames := 0, cells := 0, slots := 0, locals := 0 } s m args below meth c H locs 0 0 (MQ below (q_Rl (gX D cI cJ cS ad adK adV) (q_A (gX D cI cJ cS ad adK adV) s.heap.size) out) args s 0 0 (q_A (gX D cI cJ cS ad adK adV) s.heap.size)) (F0 m 39 ls [.int s0]) := by
  obtain ⟨hx, hb, hml, hown, hts⟩ := id C0
  intro v4 v6 s0 σ H locs ls  hw hl h
  unfold fX0_rowThrough_c39 at h
  refine lv_istore (lv' := [(7, .int s0), (0, .ref (ad k)), (1, .long p1), (3, .int p3), (4, .long v4), (6, .int v6)]) hx hb dX0_rowThrough_39 hl (by decide) rfl (fun ls hl => ?_)
  refine lv_iload hx hb dX0_rowThrough_41 (lv_at hl 0 rfl) ?_
  refine lv_if_eq (tgt := 72) hx hb dX0_rowThrough_43 (by decide) (fun c1 => ?_) (fun c1 => ?_)
  · replace h := q_t h c1
    refine lv_iinc (v := (v6 + (1 : Int32))) (lv' := [(6, .int (v6 + (1 : Int32))), (7, .int s0), (0, .ref (ad k)), (1, .long p1), (3, .int p3), (4, .long v4)]) hx hb dX0_rowThrough_72 hl (k := 5) rfl rfl (by decide) rfl (fun ls hl => ?_)
    refine lv_goto (tgt := 9) hx hb dX0_rowThrough_75 (by decide) ?_
    exact hrec9 v4 (v6 + (1 : Int32)) σ _ _ _ hw (lv_sub hl [2, 3, 4, 5, 0] rfl) h
  · replace h := q_f h c1
    refine lv_aload_n hx hb dX0_rowThrough_46 rfl (lv_at hl 1 rfl) ?_
    refine gt_X0_4 C0 hw hk iX0_rowThrough_X0 (by decide +kernel) dX0_rowThrough_47 ?_
    refine lv_iload hx hb dX0_rowThrough_50 (lv_at hl 5 rfl) ?_
    obtain ⟨b2, h⟩ := q_if h
    refine q_lald (t0 := 1) C0 hw (xN_4 (xD_2_2 hk)) (xE_4 (xD_2_2 hk)) rfl b2 dX0_rowThrough_52 ?_
    refine lv_lload_n hx hb dX0_rowThrough_53 rfl (lv_at hl 2 rfl) ?_
    refine lv_land hx hb dX0_rowThrough_54 ?_
    refine lv_lconst (v := (0 : Int64)) hx hb dX0_rowThrough_55 (by decide) ?_
    refine q_lcmp_eq (tgt := 72) C0 dX0_rowThrough_56 dX0_rowThrough_57 (by decide) (fun c3 => ?_) (fun c3 => ?_)
    · replace h := q_t h c3
      refine lv_iinc (v := (v6 + (1 : Int32))) (lv' := [(6, .int (v6 + (1 : Int32))), (7, .int s0), (0, .ref (ad k)), (1, .long p1), (3, .int p3), (4, .long v4)]) hx hb dX0_rowThrough_72 hl (k := 5) rfl rfl (by decide) rfl (fun ls hl => ?_)
      refine lv_goto (tgt := 9) hx hb dX0_rowThrough_75 (by decide) ?_
      exact hrec9 v4 (v6 + (1 : Int32)) σ _ _ _ hw (lv_sub hl [2, 3, 4, 5, 0] rfl) h
    · replace h := q_f h c3
      refine lv_lload hx hb dX0_rowThrough_60 (lv_at hl 4 rfl) ?_
      refine lv_aload_n hx hb dX0_rowThrough_62 rfl (lv_at hl 1 rfl) ?_
      refine gt_X0_4 C0 hw hk iX0_rowThrough_X0 (by decide +kernel) dX0_rowThrough_63 ?_
      refine lv_iload hx hb dX0_rowThrough_66 (lv_at hl 5 rfl) ?_
      obtain ⟨b4, h⟩ := q_if h
      refine q_lald (t0 := 1) C0 hw (xN_4 (xD_2_2 hk)) (xE_4 (xD_2_2 hk)) rfl b4 dX0_rowThrough_68 ?_
      refine lv_land hx hb dX0_rowThrough_69 ?_
      refine lv_topl (fun x5 e_x5 => ?_)
      replace h := q_let_at e_x5 h
      refine lv_lstore (lv' := [(4, .long x5), (7, .int s0), (0, .ref (ad k)), (1, .long p1), (3, .int p3), (6, .int v6)]) hx hb dX0_rowThrough_70 hl (by decide) rfl (fun ls hl => ?_)
      refine lv_iinc (v := (v6 + (1 : Int32))) (lv' := [(6, .int (v6 + (1 : Int32))), (4, .long x5), (7, .int s0), (0, .ref (ad k)), (1, .long p1), (3, .int p3)]) hx hb dX0_rowThrough_72 hl (k := 5) rfl rfl (by decide) rfl (fun ls hl => ?_)
      refine lv_goto (tgt := 9) hx hb dX0_rowThrough_75 (by decide) ?_
      exact hrec9 x5 (v6 + (1 : Int32)) σ _ _ _ hw (lv_sub hl [3, 4, 5, 1, 0] rfl) h
set_option maxHeartbeats 4000000 in
set_option maxRecDepth 100000 in
theorem tX0_rowThrough_c9 {k : Nat} {p1 : Int64} {p3 : Int32} (hk : xK k = 2) (C0 : CallFix p m c cX0_rowThrough 8 s args wsX0_rowThrough RX0) (hr : meth.sig.returnType = (some .long)) (hlk : meth.locks = false) {out : Int64 × q_M}  : ∀ n : Nat, ∀ (v4 : Int64) (v6 : Int32) (σ : q_M) (H : Heap) (locs : List Loc) (ls : Array Slot), q_H (gX D cI cJ cS ad adK adV) (q_A (gX D cI cJ cS ad adK adV) s.heap.size) s σ H locs → lv_has ls 8 [(0, .ref (ad k)), (1, .long p1), (3, .int p3), (4, .long v4), (6, .int v6)] → fX0_rowThrough_c9 k p1 p3 n v4 v6 σ = some out → W p l e { frames := 0, cells := 0, slots := 0, locals := 0 } s m args below meth c H locs 0 0 (MQ below (q_Rl (gX D cI cJ cS ad adK adV) (q_A (gX D cI cJ cS ad adK adV) s.heap.size) out) args s 0 0 (q_A (gX D cI cJ cS ad adK adV) s.heap.size)) (F0 m 9 ls []) := by
  obtain ⟨hx, hb, hml, hown, hts⟩ := id C0
  intro n
  induction n with
  | zero =>
    intro v4 v6 σ H locs ls  hw hl h
    cases (show (none : Option (Int64 × q_M)) = some out from h)
  | succ n hrec9 =>
    intro v4 v6 σ H locs ls  hw hl h
    replace h : fX0_rowThrough_c9b k p1 p3 (fX0_rowThrough_c9 k p1 p3 n) v4 v6 σ = some out := h
    unfold fX0_rowThrough_c9b at h
    refine lv_iload hx hb dX0_rowThrough_9 (lv_at hl 4 rfl) ?_
    refine lv_bipush (v := (12 : Int32)) hx hb dX0_rowThrough_11 (by decide) ?_
    refine lv_icmp_ge (tgt := 78) hx hb dX0_rowThrough_13 (by decide) (fun c1 => ?_) (fun c1 => ?_)
    · replace h := q_t h c1
      refine lv_lload hx hb dX0_rowThrough_78 (lv_at hl 3 rfl) ?_
      exact q_lret h C0 hr hlk hw dX0_rowThrough_80
    · replace h := q_f h c1
      refine lv_iload hx hb dX0_rowThrough_16 (lv_at hl 4 rfl) ?_
      refine lv_iconst (v := (4 : Int32)) hx hb dX0_rowThrough_18 (by decide) ?_
      refine lv_iload_n hx hb dX0_rowThrough_19 rfl (lv_at hl 2 rfl) ?_
      refine lv_imul hx hb dX0_rowThrough_20 ?_
      refine lv_icmp_lt (tgt := 34) hx hb dX0_rowThrough_21 (by decide) (fun c2 => ?_) (fun c2 => ?_)
      · replace h := q_t h c2
        refine lv_iconst (v := (1 : Int32)) hx hb dX0_rowThrough_34 (by decide) ?_
        refine lv_goto (tgt := 39) hx hb dX0_rowThrough_35 (by decide) ?_
        exact tX0_rowThrough_c39 hk C0 hr hlk hrec9 v4 v6 (1 : Int32) σ _ _ _ hw (lv_sub hl [0, 1, 2, 3, 4] rfl) h
      · replace h := q_f h c2
        refine lv_iload hx hb dX0_rowThrough_24 (lv_at hl 4 rfl) ?_
        refine lv_iconst (v := (4 : Int32)) hx hb dX0_rowThrough_26 (by decide) ?_
        refine lv_iload_n hx hb dX0_rowThrough_27 rfl (lv_at hl 2 rfl) ?_
        refine lv_iconst (v := (1 : Int32)) hx hb dX0_rowThrough_28 (by decide) ?_
        refine lv_iadd hx hb dX0_rowThrough_29 ?_
        refine lv_imul hx hb dX0_rowThrough_30 ?_
        refine lv_icmp_lt (tgt := 38) hx hb dX0_rowThrough_31 (by decide) (fun c3 => ?_) (fun c3 => ?_)
        · replace h := q_t h c3
          refine lv_iconst (v := (0 : Int32)) hx hb dX0_rowThrough_38 (by decide) ?_
          exact tX0_rowThrough_c39 hk C0 hr hlk hrec9 v4 v6 (0 : Int32) σ _ _ _ hw (lv_sub hl [0, 1, 2, 3, 4] rfl) h
        · replace h := q_f h c3
          refine lv_iconst (v := (1 : Int32)) hx hb dX0_rowThrough_34 (by decide) ?_
          refine lv_goto (tgt := 39) hx hb dX0_rowThrough_35 (by decide) ?_
          exact tX0_rowThrough_c39 hk C0 hr hlk hrec9 v4 v6 (1 : Int32) σ _ _ _ hw (lv_sub hl [0, 1, 2, 3, 4] rfl) h
set_option maxHeartbeats 4000000 in
set_option maxRecDepth 100000 in
theorem kX0_rowThrough {k : Nat} {p1 : Int64} {p3 : Int32} (hk : xK k = 2) {σ : q_M} {out : Int64 × q_M} (h : fX0_rowThrough k p1 p3 σ = some out) : q_Ml l (gX D cI cJ cS ad adK adV) yX0_rowThrough wsX0_rowThrough { frames := 0, cells := 0, slots := 0, locals := 0 } [.ref (ad k), .long p1, .int p3] σ out := by
  refine q_Ml_of (cc := cX0_rowThrough) (maxL := 8) (ret := (some .long)) (by decide) rfl (Nat.le_of_ble_eq_true rfl) ?_
  intro p e s m below meth c ls C0 hr hlk hl hw
  obtain ⟨hx, hb, hml, hown, hts⟩ := id C0
  replace hl : lv_has ls 8 [(0, .ref (ad k)), (1, .long p1), (3, .int p3)] := hl
  unfold fX0_rowThrough at h
  refine lv_aload_n hx hb dX0_rowThrough_0 rfl (lv_at hl 0 rfl) ?_
  refine gt_X0_2 C0 hw hk iX0_rowThrough_X0 (by decide +kernel) dX0_rowThrough_1 ?_
  refine lv_lstore (lv' := [(4, .long (σ.2 k 2)), (0, .ref (ad k)), (1, .long p1), (3, .int p3)]) hx hb dX0_rowThrough_4 hl (by decide) rfl (fun ls hl => ?_)
  refine lv_iconst (v := (0 : Int32)) hx hb dX0_rowThrough_6 (by decide) ?_
  refine lv_istore (lv' := [(6, .int (0 : Int32)), (4, .long (σ.2 k 2)), (0, .ref (ad k)), (1, .long p1), (3, .int p3)]) hx hb dX0_rowThrough_7 hl (by decide) rfl (fun ls hl => ?_)
  exact tX0_rowThrough_c9 hk C0 hr hlk q_FU (σ.2 k 2) (0 : Int32) σ _ _ _ hw (lv_sub hl [2, 3, 4, 1, 0] rfl) h
-- X0_partAround partAround(JJ)J
theorem eX0_beside : yX0_beside.cls = RX0 ∧ yX0_beside.cls ≠ "java/lang/invoke/MethodHandle" ∧ yX0_beside.cls ≠ "java/lang/invoke/VarHandle" ∧ (parseMethodDescriptor yX0_beside.desc).map (fun d => d.parameters.length) = some 1 := by decide +kernel
set_option maxHeartbeats 4000000 in
set_option maxRecDepth 100000 in
theorem tX0_partAround_c8 {k : Nat} {p1 : Int64} {p3 : Int64} (hk : xK k = 2) (C0 : CallFix p m c cX0_partAround 10 s args wsX0_partAround RX0) (hr : meth.sig.returnType = (some .long)) (hlk : meth.locks = false) {out : Int64 × q_M}  : ∀ n : Nat, ∀ (v5 : Int64) (v7 : Int32) (σ : q_M) (H : Heap) (locs : List Loc) (ls : Array Slot), q_H (gX D cI cJ cS ad adK adV) (q_A (gX D cI cJ cS ad adK adV) s.heap.size) s σ H locs → lv_has ls 10 [(0, .ref (ad k)), (1, .long p1), (5, .long v5), (7, .int v7)] → fX0_partAround_c8 k p1 p3 n v5 v7 σ = some out → W p l e { frames := 2, cells := 0, slots := 0, locals := 51 } s m args below meth c H locs 0 0 (MQ below (q_Rl (gX D cI cJ cS ad adK adV) (q_A (gX D cI cJ cS ad adK adV) s.heap.size) out) args s 0 0 (q_A (gX D cI cJ cS ad adK adV) s.heap.size)) (F0 m 8 ls []) := by
  obtain ⟨hx, hb, hml, hown, hts⟩ := id C0
  intro n
  induction n with
  | zero =>
    intro v5 v7 σ H locs ls  hw hl h
    cases (show (none : Option (Int64 × q_M)) = some out from h)
  | succ n hrec8 =>
    intro v5 v7 σ H locs ls  hw hl h
    replace h : fX0_partAround_c8b k p1 p3 (fX0_partAround_c8 k p1 p3 n) v5 v7 σ = some out := h
    unfold fX0_partAround_c8b at h
    refine lv_iload hx hb dX0_partAround_8 (lv_at hl 3 rfl) ?_
    refine lv_bipush (v := (64 : Int32)) hx hb dX0_partAround_10 (by decide) ?_
    refine lv_icmp_ge (tgt := 49) hx hb dX0_partAround_12 (by decide) (fun c1 => ?_) (fun c1 => ?_)
    · replace h := q_t h c1
      refine lv_lload hx hb dX0_partAround_49 (lv_at hl 2 rfl) ?_
      exact q_lret h C0 hr hlk hw dX0_partAround_51
    · replace h := q_f h c1
      refine lv_lload hx hb dX0_partAround_15 (lv_at hl 2 rfl) ?_
      refine lv_aload_n hx hb dX0_partAround_17 rfl (lv_at hl 0 rfl) ?_
      refine lv_lload hx hb dX0_partAround_18 (lv_at hl 2 rfl) ?_
      obtain ⟨o2, hco2, h⟩ := q_bind h
      refine q_calll hw (va_runV (As := [.long v5]) (rest := [.long v5]) C0 (kX0_beside hk hco2 _) (cwV 1 hts gX0_partAround_X0_beside rfl rfl rfl eX0_beside ⟨(Nat.le_of_ble_eq_true rfl), (Nat.le_of_ble_eq_true rfl)⟩) ⟨q_blind, q_recv hw (xN_2 hk) (xE_2 hk) rfl, q_pre hw⟩ rfl rfl hl.1 rfl (lv_room (Nat.le_of_ble_eq_true rfl)) dX0_partAround_20 ⟨Nat.zero_le _, Nat.zero_le _⟩) (fun H locs hw => ?_)
      refine lv_lload_n hx hb dX0_partAround_23 rfl (lv_at hl 1 rfl) ?_
      refine lv_land hx hb dX0_partAround_24 ?_
      refine lv_lor hx hb dX0_partAround_25 ?_
      refine lv_lstore (lv' := [(8, .long (v5 ||| (o2.1 &&& p1))), (0, .ref (ad k)), (1, .long p1), (5, .long v5), (7, .int v7)]) hx hb dX0_partAround_26 hl (by decide) rfl (fun ls hl => ?_)
      refine lv_lload hx hb dX0_partAround_28 (lv_at hl 0 rfl) ?_
      refine lv_lload hx hb dX0_partAround_30 (lv_at hl 3 rfl) ?_
      refine q_lcmp_ne (tgt := 39) C0 dX0_partAround_32 dX0_partAround_33 (by decide) (fun c3 => ?_) (fun c3 => ?_)
      · replace h := q_f h c3
        refine lv_lload hx hb dX0_partAround_39 (lv_at hl 0 rfl) ?_
        refine lv_lstore (lv' := [(5, .long (v5 ||| (o2.1 &&& p1))), (8, .long (v5 ||| (o2.1 &&& p1))), (0, .ref (ad k)), (1, .long p1), (7, .int v7)]) hx hb dX0_partAround_41 hl (by decide) rfl (fun ls hl => ?_)
        refine lv_iinc (v := (v7 + (1 : Int32))) (lv' := [(7, .int (v7 + (1 : Int32))), (5, .long (v5 ||| (o2.1 &&& p1))), (8, .long (v5 ||| (o2.1 &&& p1))), (0, .ref (ad k)), (1, .long p1)]) hx hb dX0_partAround_43 hl (k := 4) rfl rfl (by decide) rfl (fun ls hl => ?_)
        refine lv_goto (tgt := 8) hx hb dX0_partAround_46 (by decide) ?_
        exact hrec8 (v5 ||| (o2.1 &&& p1)) (v7 + (1 : Int32)) o2.2 _ _ _ hw (lv_sub hl [3, 4, 1, 0] rfl) h
      · replace h := q_t h c3
        refine lv_goto (tgt := 49) hx hb dX0_partAround_36 (by decide) ?_
        refine lv_lload hx hb dX0_partAround_49 (lv_at hl 3 rfl) ?_
        exact q_lret h C0 hr hlk hw dX0_partAround_51
set_option maxHeartbeats 4000000 in
set_option maxRecDepth 100000 in
theorem kX0_partAround {k : Nat} {p1 : Int64} {p3 : Int64} (hk : xK k = 2) {σ : q_M} {out : Int64 × q_M} (h : fX0_partAround k p1 p3 σ = some out) : q_Ml l (gX D cI cJ cS ad adK adV) yX0_partAround wsX0_partAround { frames := 2, cells := 0, slots := 0, locals := 51 } [.ref (ad k), .long p1, .long p3] σ out := by
  refine q_Ml_of (cc := cX0_partAround) (maxL := 10) (ret := (some .long)) (by decide) rfl (Nat.le_of_ble_eq_true rfl) ?_
  intro p e s m below meth c ls C0 hr hlk hl hw
  obtain ⟨hx, hb, hml, hown, hts⟩ := id C0
  replace hl : lv_has ls 10 [(0, .ref (ad k)), (1, .long p1), (3, .long p3)] := hl
  unfold fX0_partAround at h
  refine lv_lload_n hx hb dX0_partAround_0 rfl (lv_at hl 2 rfl) ?_
  refine lv_lload_n hx hb dX0_partAround_1 rfl (lv_at hl 1 rfl) ?_
  refine lv_land hx hb dX0_partAround_2 ?_
  refine lv_lstore (lv' := [(5, .long (p3 &&& p1)), (0, .ref (ad k)), (1, .long p1), (3, .long p3)]) hx hb dX0_partAround_3 hl (by decide) rfl (fun ls hl => ?_)
  refine lv_iconst (v := (0 : Int32)) hx hb dX0_partAround_5 (by decide) ?_
  refine lv_istore (lv' := [(7, .int (0 : Int32)), (5, .long (p3 &&& p1)), (0, .ref (ad k)), (1, .long p1), (3, .long p3)]) hx hb dX0_partAround_6 hl (by decide) rfl (fun ls hl => ?_)
  exact tX0_partAround_c8 hk C0 hr hlk q_FU (p3 &&& p1) (0 : Int32) σ _ _ _ hw (lv_sub hl [2, 3, 1, 0] rfl) h
-- X0_isOnePart isOnePart(J)Z
theorem eX0_partAround : yX0_partAround.cls = RX0 ∧ yX0_partAround.cls ≠ "java/lang/invoke/MethodHandle" ∧ yX0_partAround.cls ≠ "java/lang/invoke/VarHandle" ∧ (parseMethodDescriptor yX0_partAround.desc).map (fun d => d.parameters.length) = some 2 := by decide +kernel
set_option maxHeartbeats 4000000 in
set_option maxRecDepth 100000 in
theorem kX0_isOnePart {k : Nat} {p1 : Int64} (hk : xK k = 2) {σ : q_M} {out : Int32 × q_M} (h : fX0_isOnePart k p1 σ = some out) : q_Mi l (gX D cI cJ cS ad adK adV) yX0_isOnePart wsX0_isOnePart { frames := 3, cells := 0, slots := 0, locals := 80 } [.ref (ad k), .long p1] σ out := by
  refine q_Mi_of (cc := cX0_isOnePart) (maxL := 3) (ret := (some .boolean)) (by decide) rfl (Nat.le_of_ble_eq_true rfl) ?_
  intro p e s m below meth c ls C0 hr hlk hl hw
  obtain ⟨hx, hb, hml, hown, hts⟩ := id C0
  replace hl : lv_has ls 3 [(0, .ref (ad k)), (1, .long p1)] := hl
  unfold fX0_isOnePart at h
  refine lv_aload_n hx hb dX0_isOnePart_0 rfl (lv_at hl 0 rfl) ?_
  refine lv_lload_n hx hb dX0_isOnePart_1 rfl (lv_at hl 1 rfl) ?_
  refine lv_lload_n hx hb dX0_isOnePart_2 rfl (lv_at hl 1 rfl) ?_
  refine lv_lload_n hx hb dX0_isOnePart_3 rfl (lv_at hl 1 rfl) ?_
  refine lv_lneg hx hb dX0_isOnePart_4 ?_
  refine lv_land hx hb dX0_isOnePart_5 ?_
  obtain ⟨o1, hco1, h⟩ := q_bind h
  refine q_calll hw (va_runV (As := [.long p1, .long (p1 &&& (-p1))]) (rest := []) C0 (kX0_partAround hk hco1 _) (cwV 2 hts gX0_isOnePart_X0_partAround rfl rfl rfl eX0_partAround ⟨(Nat.le_of_ble_eq_true rfl), (Nat.le_of_ble_eq_true rfl)⟩) ⟨q_blind, q_recv hw (xN_2 hk) (xE_2 hk) rfl, q_pre hw⟩ rfl rfl hl.1 rfl (lv_room (Nat.le_of_ble_eq_true rfl)) dX0_isOnePart_6 ⟨Nat.zero_le _, Nat.zero_le _⟩) (fun H locs hw => ?_)
  refine lv_lload_n hx hb dX0_isOnePart_9 rfl (lv_at hl 1 rfl) ?_
  refine q_lcmp_ne (tgt := 18) C0 dX0_isOnePart_10 dX0_isOnePart_11 (by decide) (fun c2 => ?_) (fun c2 => ?_)
  · replace h := q_f h c2
    refine lv_iconst (v := (0 : Int32)) hx hb dX0_isOnePart_18 (by decide) ?_
    exact q_zret h C0 hr rfl hlk hw dX0_isOnePart_19
  · replace h := q_t h c2
    refine lv_iconst (v := (1 : Int32)) hx hb dX0_isOnePart_14 (by decide) ?_
    refine lv_goto (tgt := 19) hx hb dX0_isOnePart_15 (by decide) ?_
    exact q_zret h C0 hr rfl hlk hw dX0_isOnePart_19
-- X0_countParts countParts(J)I
set_option maxHeartbeats 4000000 in
set_option maxRecDepth 100000 in
theorem tX0_countParts_c8 {k : Nat} {p1 : Int64} (hk : xK k = 2) (C0 : CallFix p m c cX0_countParts 7 s args wsX0_countParts RX0) (hr : meth.sig.returnType = (some .int)) (hlk : meth.locks = false) {out : Int32 × q_M}  : ∀ n : Nat, ∀ (v3 : Int32) (v4 : Int64) (v6 : Int32) (σ : q_M) (H : Heap) (locs : List Loc) (ls : Array Slot), q_H (gX D cI cJ cS ad adK adV) (q_A (gX D cI cJ cS ad adK adV) s.heap.size) s σ H locs → lv_has ls 7 [(0, .ref (ad k)), (3, .int v3), (4, .long v4), (6, .int v6)] → fX0_countParts_c8 k p1 n v3 v4 v6 σ = some out → W p l e { frames := 3, cells := 0, slots := 0, locals := 80 } s m args below meth c H locs 0 0 (MQ below (q_Ri (gX D cI cJ cS ad adK adV) (q_A (gX D cI cJ cS ad adK adV) s.heap.size) out) args s 0 0 (q_A (gX D cI cJ cS ad adK adV) s.heap.size)) (F0 m 8 ls []) := by
  obtain ⟨hx, hb, hml, hown, hts⟩ := id C0
  intro n
  induction n with
  | zero =>
    intro v3 v4 v6 σ H locs ls  hw hl h
    cases (show (none : Option (Int32 × q_M)) = some out from h)
  | succ n hrec8 =>
    intro v3 v4 v6 σ H locs ls  hw hl h
    replace h : fX0_countParts_c8b k p1 (fX0_countParts_c8 k p1 n) v3 v4 v6 σ = some out := h
    unfold fX0_countParts_c8b at h
    refine lv_iload hx hb dX0_countParts_8 (lv_at hl 3 rfl) ?_
    refine lv_bipush (v := (64 : Int32)) hx hb dX0_countParts_10 (by decide) ?_
    refine lv_icmp_ge (tgt := 52) hx hb dX0_countParts_12 (by decide) (fun c1 => ?_) (fun c1 => ?_)
    · replace h := q_t h c1
      refine lv_iload_n hx hb dX0_countParts_52 rfl (lv_at hl 1 rfl) ?_
      exact q_iret h C0 hr hlk hw dX0_countParts_53
    · replace h := q_f h c1
      refine lv_lload hx hb dX0_countParts_15 (lv_at hl 2 rfl) ?_
      refine lv_lconst (v := (0 : Int64)) hx hb dX0_countParts_17 (by decide) ?_
      refine q_lcmp_eq (tgt := 52) C0 dX0_countParts_18 dX0_countParts_19 (by decide) (fun c2 => ?_) (fun c2 => ?_)
      · replace h := q_t h c2
        refine lv_iload_n hx hb dX0_countParts_52 rfl (lv_at hl 1 rfl) ?_
        exact q_iret h C0 hr hlk hw dX0_countParts_53
      · replace h := q_f h c2
        refine lv_lload hx hb dX0_countParts_22 (lv_at hl 2 rfl) ?_
        refine lv_aload_n hx hb dX0_countParts_24 rfl (lv_at hl 0 rfl) ?_
        refine lv_lload hx hb dX0_countParts_25 (lv_at hl 2 rfl) ?_
        refine lv_lload hx hb dX0_countParts_27 (lv_at hl 2 rfl) ?_
        refine lv_lload hx hb dX0_countParts_29 (lv_at hl 2 rfl) ?_
        refine lv_lneg hx hb dX0_countParts_31 ?_
        refine lv_land hx hb dX0_countParts_32 ?_
        obtain ⟨o3, hco3, h⟩ := q_bind h
        refine q_calll hw (va_runV (As := [.long v4, .long (v4 &&& (-v4))]) (rest := [.long v4]) C0 (kX0_partAround hk hco3 _) (cwV 2 hts gX0_countParts_X0_partAround rfl rfl rfl eX0_partAround ⟨(Nat.le_of_ble_eq_true rfl), (Nat.le_of_ble_eq_true rfl)⟩) ⟨q_blind, q_recv hw (xN_2 hk) (xE_2 hk) rfl, q_pre hw⟩ rfl rfl hl.1 rfl (lv_room (Nat.le_of_ble_eq_true rfl)) dX0_countParts_33 ⟨Nat.zero_le _, Nat.zero_le _⟩) (fun H locs hw => ?_)
        refine lv_ldc2 (v := (-1 : Int64)) hx hb hown (hts (.constantLong RX0 33 (-1)) (by decide +kernel)) dX0_countParts_36 ?_
        refine lv_lxor hx hb dX0_countParts_39 ?_
        refine lv_land hx hb dX0_countParts_40 ?_
        refine lv_topl (fun x4 e_x4 => ?_)
        replace h := q_let_at e_x4 h
        refine lv_lstore (lv' := [(4, .long x4), (0, .ref (ad k)), (3, .int v3), (6, .int v6)]) hx hb dX0_countParts_41 hl (by decide) rfl (fun ls hl => ?_)
        refine lv_iinc (v := (v3 + (1 : Int32))) (lv' := [(3, .int (v3 + (1 : Int32))), (4, .long x4), (0, .ref (ad k)), (6, .int v6)]) hx hb dX0_countParts_43 hl (k := 2) rfl rfl (by decide) rfl (fun ls hl => ?_)
        refine lv_iinc (v := (v6 + (1 : Int32))) (lv' := [(6, .int (v6 + (1 : Int32))), (3, .int (v3 + (1 : Int32))), (4, .long x4), (0, .ref (ad k))]) hx hb dX0_countParts_46 hl (k := 3) rfl rfl (by decide) rfl (fun ls hl => ?_)
        refine lv_goto (tgt := 8) hx hb dX0_countParts_49 (by decide) ?_
        exact hrec8 (v3 + (1 : Int32)) x4 (v6 + (1 : Int32)) o3.2 _ _ _ hw (lv_sub hl [3, 1, 2, 0] rfl) h
set_option maxHeartbeats 4000000 in
set_option maxRecDepth 100000 in
theorem kX0_countParts {k : Nat} {p1 : Int64} (hk : xK k = 2) {σ : q_M} {out : Int32 × q_M} (h : fX0_countParts k p1 σ = some out) : q_Mi l (gX D cI cJ cS ad adK adV) yX0_countParts wsX0_countParts { frames := 3, cells := 0, slots := 0, locals := 80 } [.ref (ad k), .long p1] σ out := by
  refine q_Mi_of (cc := cX0_countParts) (maxL := 7) (ret := (some .int)) (by decide) rfl (Nat.le_of_ble_eq_true rfl) ?_
  intro p e s m below meth c ls C0 hr hlk hl hw
  obtain ⟨hx, hb, hml, hown, hts⟩ := id C0
  replace hl : lv_has ls 7 [(0, .ref (ad k)), (1, .long p1)] := hl
  unfold fX0_countParts at h
  refine lv_iconst (v := (0 : Int32)) hx hb dX0_countParts_0 (by decide) ?_
  refine lv_istore_n (lv' := [(3, .int (0 : Int32)), (0, .ref (ad k)), (1, .long p1)]) hx hb dX0_countParts_1 rfl hl (by decide) rfl (fun ls hl => ?_)
  refine lv_lload_n hx hb dX0_countParts_2 rfl (lv_at hl 2 rfl) ?_
  refine lv_lstore (lv' := [(4, .long p1), (3, .int (0 : Int32)), (0, .ref (ad k)), (1, .long p1)]) hx hb dX0_countParts_3 hl (by decide) rfl (fun ls hl => ?_)
  refine lv_iconst (v := (0 : Int32)) hx hb dX0_countParts_5 (by decide) ?_
  refine lv_istore (lv' := [(6, .int (0 : Int32)), (4, .long p1), (3, .int (0 : Int32)), (0, .ref (ad k)), (1, .long p1)]) hx hb dX0_countParts_6 hl (by decide) rfl (fun ls hl => ?_)
  exact tX0_countParts_c8 hk C0 hr hlk q_FU (0 : Int32) p1 (0 : Int32) σ _ _ _ hw (lv_sub hl [3, 2, 1, 0] rfl) h
-- X0_holdsTogether holdsTogether(JJ)Z
set_option maxHeartbeats 4000000 in
set_option maxRecDepth 100000 in
theorem kX0_holdsTogether {k : Nat} {p1 : Int64} {p3 : Int64} (hk : xK k = 2) {σ : q_M} {out : Int32 × q_M} (h : fX0_holdsTogether k p1 p3 σ = some out) : q_Mi l (gX D cI cJ cS ad adK adV) yX0_holdsTogether wsX0_holdsTogether { frames := 3, cells := 0, slots := 0, locals := 80 } [.ref (ad k), .long p1, .long p3] σ out := by
  refine q_Mi_of (cc := cX0_holdsTogether) (maxL := 9) (ret := (some .boolean)) (by decide) rfl (Nat.le_of_ble_eq_true rfl) ?_
  intro p e s m below meth c ls C0 hr hlk hl hw
  obtain ⟨hx, hb, hml, hown, hts⟩ := id C0
  replace hl : lv_has ls 9 [(0, .ref (ad k)), (1, .long p1), (3, .long p3)] := hl
  unfold fX0_holdsTogether at h
  refine lv_lload_n hx hb dX0_holdsTogether_0 rfl (lv_at hl 1 rfl) ?_
  refine lv_lload_n hx hb dX0_holdsTogether_1 rfl (lv_at hl 2 rfl) ?_
  refine lv_ldc2 (v := (-1 : Int64)) hx hb hown (hts (.constantLong RX0 33 (-1)) (by decide +kernel)) dX0_holdsTogether_2 ?_
  refine lv_lxor hx hb dX0_holdsTogether_5 ?_
  refine lv_land hx hb dX0_holdsTogether_6 ?_
  refine lv_topl (fun x1 e_x1 => ?_)
  replace h := q_let_at e_x1 h
  refine lv_lstore (lv' := [(5, .long x1), (0, .ref (ad k)), (1, .long p1), (3, .long p3)]) hx hb dX0_holdsTogether_7 hl (by decide) rfl (fun ls hl => ?_)
  refine lv_aload_n hx hb dX0_holdsTogether_9 rfl (lv_at hl 1 rfl) ?_
  refine lv_lload_n hx hb dX0_holdsTogether_10 rfl (lv_at hl 3 rfl) ?_
  obtain ⟨o2, hco2, h⟩ := q_bind h
  refine q_calll hw (va_runV (As := [.long p3]) (rest := []) C0 (kX0_beside hk hco2 _) (cwV 1 hts gX0_holdsTogether_X0_beside rfl rfl rfl eX0_beside ⟨(Nat.le_of_ble_eq_true rfl), (Nat.le_of_ble_eq_true rfl)⟩) ⟨q_blind, q_recv hw (xN_2 hk) (xE_2 hk) rfl, q_pre hw⟩ rfl rfl hl.1 rfl (lv_room (Nat.le_of_ble_eq_true rfl)) dX0_holdsTogether_11 ⟨Nat.zero_le _, Nat.zero_le _⟩) (fun H locs hw => ?_)
  refine lv_lload hx hb dX0_holdsTogether_14 (lv_at hl 0 rfl) ?_
  refine lv_land hx hb dX0_holdsTogether_16 ?_
  refine lv_lstore (lv' := [(7, .long (o2.1 &&& x1)), (5, .long x1), (0, .ref (ad k)), (1, .long p1), (3, .long p3)]) hx hb dX0_holdsTogether_17 hl (by decide) rfl (fun ls hl => ?_)
  refine lv_lload hx hb dX0_holdsTogether_19 (lv_at hl 0 rfl) ?_
  refine lv_aload_n hx hb dX0_holdsTogether_21 rfl (lv_at hl 2 rfl) ?_
  refine lv_lload hx hb dX0_holdsTogether_22 (lv_at hl 1 rfl) ?_
  refine lv_lload hx hb dX0_holdsTogether_24 (lv_at hl 0 rfl) ?_
  refine lv_lload hx hb dX0_holdsTogether_26 (lv_at hl 0 rfl) ?_
  refine lv_lneg hx hb dX0_holdsTogether_28 ?_
  refine lv_land hx hb dX0_holdsTogether_29 ?_
  obtain ⟨o3, hco3, h⟩ := q_bind h
  refine q_calll hw (va_runV (As := [.long x1, .long ((o2.1 &&& x1) &&& (-(o2.1 &&& x1)))]) (rest := [.long (o2.1 &&& x1)]) C0 (kX0_partAround hk hco3 _) (cwV 2 hts gX0_holdsTogether_X0_partAround rfl rfl rfl eX0_partAround ⟨(Nat.le_of_ble_eq_true rfl), (Nat.le_of_ble_eq_true rfl)⟩) ⟨q_blind, q_recv hw (xN_2 hk) (xE_2 hk) rfl, q_pre hw⟩ rfl rfl hl.1 rfl (lv_room (Nat.le_of_ble_eq_true rfl)) dX0_holdsTogether_30 ⟨Nat.zero_le _, Nat.zero_le _⟩) (fun H locs hw => ?_)
  refine lv_ldc2 (v := (-1 : Int64)) hx hb hown (hts (.constantLong RX0 33 (-1)) (by decide +kernel)) dX0_holdsTogether_33 ?_
  refine lv_lxor hx hb dX0_holdsTogether_36 ?_
  refine lv_land hx hb dX0_holdsTogether_37 ?_
  refine lv_lconst (v := (0 : Int64)) hx hb dX0_holdsTogether_38 (by decide) ?_
  refine q_lcmp_eq (tgt := 47) C0 dX0_holdsTogether_39 dX0_holdsTogether_40 (by decide) (fun c4 => ?_) (fun c4 => ?_)
  · replace h := q_t h c4
    refine lv_iconst (v := (0 : Int32)) hx hb dX0_holdsTogether_47 (by decide) ?_
    exact q_zret h C0 hr rfl hlk hw dX0_holdsTogether_48
  · replace h := q_f h c4
    refine lv_iconst (v := (1 : Int32)) hx hb dX0_holdsTogether_43 (by decide) ?_
    refine lv_goto (tgt := 48) hx hb dX0_holdsTogether_44 (by decide) ?_
    exact q_zret h C0 hr rfl hlk hw dX0_holdsTogether_48
-- X0_thinnestRow thinnestRow(JI)I
theorem iX0_thinnestRow_X0 : ∀ w ∈ wsX00, w ∈ wsX0_thinnestRow := by decide +kernel
theorem eJ13_bitCount_95d88 : yJ13_bitCount_95d88.cls ≠ "java/lang/invoke/MethodHandle" ∧ yJ13_bitCount_95d88.cls ≠ "java/lang/invoke/VarHandle" ∧ (parseMethodDescriptor yJ13_bitCount_95d88.desc).map (fun d => d.parameters.length) = some 1 := by decide +kernel
theorem eX0_rowThrough : yX0_rowThrough.cls = RX0 ∧ yX0_rowThrough.cls ≠ "java/lang/invoke/MethodHandle" ∧ yX0_rowThrough.cls ≠ "java/lang/invoke/VarHandle" ∧ (parseMethodDescriptor yX0_rowThrough.desc).map (fun d => d.parameters.length) = some 2 := by decide +kernel
set_option maxHeartbeats 4000000 in
set_option maxRecDepth 100000 in
theorem tX0_thinnestRow_c6 {k : Nat} {p1 : Int64} {p3 : Int32} (hk : xK k = 2) (C0 : CallFix p m c cX0_thinnestRow 9 s args wsX0_thinnestRow RX0) (hr : meth.sig.returnType = (some .int)) (hlk : meth.locks = false) {out : Int32 × q_M}  : ∀ n : Nat, ∀ (v4 : Int32) (v5 : Int32) (σ : q_M) (H : Heap) (locs : List Loc) (ls : Array Slot), q_H (gX D cI cJ cS ad adK adV) (q_A (gX D cI cJ cS ad adK adV) s.heap.size) s σ H locs → lv_has ls 9 [(0, .ref (ad k)), (1, .long p1), (3, .int p3), (4, .int v4), (5, .int v5)] → fX0_thinnestRow_c6 k p1 p3 n v4 v5 σ = some out → W p l e { frames := 1, cells := 0, slots := 0, locals := 27 } s m args below meth c H locs 0 0 (MQ below (q_Ri (gX D cI cJ cS ad adK adV) (q_A (gX D cI cJ cS ad adK adV) s.heap.size) out) args s 0 0 (q_A (gX D cI cJ cS ad adK adV) s.heap.size)) (F0 m 6 ls []) := by
  obtain ⟨hx, hb, hml, hown, hts⟩ := id C0
  intro n
  induction n with
  | zero =>
    intro v4 v5 σ H locs ls  hw hl h
    cases (show (none : Option (Int32 × q_M)) = some out from h)
  | succ n hrec6 =>
    intro v4 v5 σ H locs ls  hw hl h
    replace h : fX0_thinnestRow_c6b k p1 p3 (fX0_thinnestRow_c6 k p1 p3 n) v4 v5 σ = some out := h
    unfold fX0_thinnestRow_c6b at h
    refine lv_iload hx hb dX0_thinnestRow_6 (lv_at hl 4 rfl) ?_
    refine lv_aload_n hx hb dX0_thinnestRow_8 rfl (lv_at hl 0 rfl) ?_
    refine gt_X0_1 C0 hw hk iX0_thinnestRow_X0 (by decide +kernel) dX0_thinnestRow_9 ?_
    refine lv_icmp_ge (tgt := 69) hx hb dX0_thinnestRow_12 (by decide) (fun c1 => ?_) (fun c1 => ?_)
    · replace h := q_t h c1
      refine lv_iload hx hb dX0_thinnestRow_69 (lv_at hl 3 rfl) ?_
      exact q_iret h C0 hr hlk hw dX0_thinnestRow_71
    · replace h := q_f h c1
      refine lv_lconst (v := (1 : Int64)) hx hb dX0_thinnestRow_15 (by decide) ?_
      refine lv_iload hx hb dX0_thinnestRow_16 (lv_at hl 4 rfl) ?_
      refine lv_lshl (v := (q_shl (1 : Int64) v5)) hx hb dX0_thinnestRow_18 rfl ?_
      refine lv_lstore (lv' := [(6, .long (q_shl (1 : Int64) v5)), (0, .ref (ad k)), (1, .long p1), (3, .int p3), (4, .int v4), (5, .int v5)]) hx hb dX0_thinnestRow_19 hl (by decide) rfl (fun ls hl => ?_)
      refine lv_lload_n hx hb dX0_thinnestRow_21 rfl (lv_at hl 2 rfl) ?_
      refine lv_lload hx hb dX0_thinnestRow_22 (lv_at hl 0 rfl) ?_
      refine lv_land hx hb dX0_thinnestRow_24 ?_
      refine lv_lconst (v := (0 : Int64)) hx hb dX0_thinnestRow_25 (by decide) ?_
      refine q_lcmp_ne (tgt := 33) C0 dX0_thinnestRow_26 dX0_thinnestRow_27 (by decide) (fun c2 => ?_) (fun c2 => ?_)
      · replace h := q_f h c2
        refine lv_lload_n hx hb dX0_thinnestRow_33 rfl (lv_at hl 2 rfl) ?_
        refine lv_aload_n hx hb dX0_thinnestRow_34 rfl (lv_at hl 1 rfl) ?_
        refine lv_lload hx hb dX0_thinnestRow_35 (lv_at hl 0 rfl) ?_
        refine lv_iload_n hx hb dX0_thinnestRow_37 rfl (lv_at hl 3 rfl) ?_
        obtain ⟨o3, hco3, h⟩ := q_bind h
        refine q_calll hw (va_runV (As := [.long (q_shl (1 : Int64) v5), .int p3]) (rest := [.long p1]) C0 (kX0_rowThrough hk hco3 _) (cwV 2 hts gX0_thinnestRow_X0_rowThrough rfl rfl rfl eX0_rowThrough ⟨(Nat.le_of_ble_eq_true rfl), (Nat.le_of_ble_eq_true rfl)⟩) ⟨q_blind, q_recv hw (xN_2 hk) (xE_2 hk) rfl, q_pre hw⟩ rfl rfl hl.1 rfl (lv_room (Nat.le_of_ble_eq_true rfl)) dX0_thinnestRow_38 ⟨Nat.zero_le _, Nat.zero_le _⟩) (fun H locs hw => ?_)
        refine lv_land hx hb dX0_thinnestRow_41 ?_
        obtain ⟨o4, hco4, h⟩ := q_bind h
        refine q_calli hw (va_runS (As := [.long (p1 &&& o3.1)]) (rest := []) C0 (kJ13_bitCount_95d88 hco4 _) (va_cwS 1 hts gX0_thinnestRow_J13_bitCount_95d88 rfl rfl rfl eJ13_bitCount_95d88 ⟨(Nat.le_of_ble_eq_true rfl), (Nat.le_of_ble_eq_true rfl)⟩) ⟨q_blind, q_pre hw⟩ rfl rfl hl.1 rfl (lv_room (Nat.le_of_ble_eq_true rfl)) dX0_thinnestRow_42 ⟨Nat.zero_le _, Nat.zero_le _⟩) (fun H locs hw => ?_)
        refine lv_istore (lv' := [(8, .int o4.1), (6, .long (q_shl (1 : Int64) v5)), (0, .ref (ad k)), (1, .long p1), (3, .int p3), (4, .int v4), (5, .int v5)]) hx hb dX0_thinnestRow_45 hl (by decide) rfl (fun ls hl => ?_)
        refine lv_iload hx hb dX0_thinnestRow_47 (lv_at hl 5 rfl) ?_
        refine lv_if_eq (tgt := 59) hx hb dX0_thinnestRow_49 (by decide) (fun c5 => ?_) (fun c5 => ?_)
        · replace h := q_t h c5
          refine lv_iload hx hb dX0_thinnestRow_59 (lv_at hl 0 rfl) ?_
          refine lv_istore (lv' := [(4, .int o4.1), (8, .int o4.1), (6, .long (q_shl (1 : Int64) v5)), (0, .ref (ad k)), (1, .long p1), (3, .int p3), (5, .int v5)]) hx hb dX0_thinnestRow_61 hl (by decide) rfl (fun ls hl => ?_)
          refine lv_iinc (v := (v5 + (1 : Int32))) (lv' := [(5, .int (v5 + (1 : Int32))), (4, .int o4.1), (8, .int o4.1), (6, .long (q_shl (1 : Int64) v5)), (0, .ref (ad k)), (1, .long p1), (3, .int p3)]) hx hb dX0_thinnestRow_63 hl (k := 6) rfl rfl (by decide) rfl (fun ls hl => ?_)
          refine lv_goto (tgt := 6) hx hb dX0_thinnestRow_66 (by decide) ?_
          exact hrec6 o4.1 (v5 + (1 : Int32)) o4.2 _ _ _ hw (lv_sub hl [4, 5, 6, 1, 0] rfl) h
        · replace h := q_f h c5
          refine lv_iload hx hb dX0_thinnestRow_52 (lv_at hl 0 rfl) ?_
          refine lv_iload hx hb dX0_thinnestRow_54 (lv_at hl 5 rfl) ?_
          refine lv_icmp_ge (tgt := 63) hx hb dX0_thinnestRow_56 (by decide) (fun c6 => ?_) (fun c6 => ?_)
          · replace h := q_t h c6
            refine lv_iinc (v := (v5 + (1 : Int32))) (lv' := [(5, .int (v5 + (1 : Int32))), (8, .int o4.1), (6, .long (q_shl (1 : Int64) v5)), (0, .ref (ad k)), (1, .long p1), (3, .int p3), (4, .int v4)]) hx hb dX0_thinnestRow_63 hl (k := 6) rfl rfl (by decide) rfl (fun ls hl => ?_)
            refine lv_goto (tgt := 6) hx hb dX0_thinnestRow_66 (by decide) ?_
            exact hrec6 v4 (v5 + (1 : Int32)) o4.2 _ _ _ hw (lv_sub hl [3, 4, 5, 6, 0] rfl) h
          · replace h := q_f h c6
            refine lv_iload hx hb dX0_thinnestRow_59 (lv_at hl 0 rfl) ?_
            refine lv_istore (lv' := [(4, .int o4.1), (8, .int o4.1), (6, .long (q_shl (1 : Int64) v5)), (0, .ref (ad k)), (1, .long p1), (3, .int p3), (5, .int v5)]) hx hb dX0_thinnestRow_61 hl (by decide) rfl (fun ls hl => ?_)
            refine lv_iinc (v := (v5 + (1 : Int32))) (lv' := [(5, .int (v5 + (1 : Int32))), (4, .int o4.1), (8, .int o4.1), (6, .long (q_shl (1 : Int64) v5)), (0, .ref (ad k)), (1, .long p1), (3, .int p3)]) hx hb dX0_thinnestRow_63 hl (k := 6) rfl rfl (by decide) rfl (fun ls hl => ?_)
            refine lv_goto (tgt := 6) hx hb dX0_thinnestRow_66 (by decide) ?_
            exact hrec6 o4.1 (v5 + (1 : Int32)) o4.2 _ _ _ hw (lv_sub hl [4, 5, 6, 1, 0] rfl) h
      · replace h := q_t h c2
        refine lv_goto (tgt := 63) hx hb dX0_thinnestRow_30 (by decide) ?_
        refine lv_iinc (v := (v5 + (1 : Int32))) (lv' := [(5, .int (v5 + (1 : Int32))), (6, .long (q_shl (1 : Int64) v5)), (0, .ref (ad k)), (1, .long p1), (3, .int p3), (4, .int v4)]) hx hb dX0_thinnestRow_63 hl (k := 5) rfl rfl (by decide) rfl (fun ls hl => ?_)
        refine lv_goto (tgt := 6) hx hb dX0_thinnestRow_66 (by decide) ?_
        exact hrec6 v4 (v5 + (1 : Int32)) σ _ _ _ hw (lv_sub hl [2, 3, 4, 5, 0] rfl) h
set_option maxHeartbeats 4000000 in
set_option maxRecDepth 100000 in
theorem kX0_thinnestRow {k : Nat} {p1 : Int64} {p3 : Int32} (hk : xK k = 2) {σ : q_M} {out : Int32 × q_M} (h : fX0_thinnestRow k p1 p3 σ = some out) : q_Mi l (gX D cI cJ cS ad adK adV) yX0_thinnestRow wsX0_thinnestRow { frames := 1, cells := 0, slots := 0, locals := 27 } [.ref (ad k), .long p1, .int p3] σ out := by
  refine q_Mi_of (cc := cX0_thinnestRow) (maxL := 9) (ret := (some .int)) (by decide) rfl (Nat.le_of_ble_eq_true rfl) ?_
  intro p e s m below meth c ls C0 hr hlk hl hw
  obtain ⟨hx, hb, hml, hown, hts⟩ := id C0
  replace hl : lv_has ls 9 [(0, .ref (ad k)), (1, .long p1), (3, .int p3)] := hl
  unfold fX0_thinnestRow at h
  refine lv_iconst (v := (0 : Int32)) hx hb dX0_thinnestRow_0 (by decide) ?_
  refine lv_istore (lv' := [(4, .int (0 : Int32)), (0, .ref (ad k)), (1, .long p1), (3, .int p3)]) hx hb dX0_thinnestRow_1 hl (by decide) rfl (fun ls hl => ?_)
  refine lv_iconst (v := (0 : Int32)) hx hb dX0_thinnestRow_3 (by decide) ?_
  refine lv_istore (lv' := [(5, .int (0 : Int32)), (4, .int (0 : Int32)), (0, .ref (ad k)), (1, .long p1), (3, .int p3)]) hx hb dX0_thinnestRow_4 hl (by decide) rfl (fun ls hl => ?_)
  exact tX0_thinnestRow_c6 hk C0 hr hlk q_FU (0 : Int32) (0 : Int32) σ _ _ _ hw (lv_sub hl [2, 3, 4, 1, 0] rfl) h
-- X0_shiftedBy shiftedBy(JI)J
set_option maxHeartbeats 4000000 in
set_option maxRecDepth 100000 in
theorem kX0_shiftedBy {p0 : Int64} {p2 : Int32}  {σ : q_M} {out : Int64 × q_M} (h : fX0_shiftedBy p0 p2 σ = some out) : q_Ml l (gX D cI cJ cS ad adK adV) yX0_shiftedBy wsX0_shiftedBy { frames := 0, cells := 0, slots := 0, locals := 0 } [.long p0, .int p2] σ out := by
  refine q_Ml_of (cc := cX0_shiftedBy) (maxL := 3) (ret := (some .long)) (by decide) rfl (Nat.le_of_ble_eq_true rfl) ?_
  intro p e s m below meth c ls C0 hr hlk hl hw
  obtain ⟨hx, hb, hml, hown, hts⟩ := id C0
  replace hl : lv_has ls 3 [(0, .long p0), (2, .int p2)] := hl
  unfold fX0_shiftedBy at h
  refine lv_iload_n hx hb dX0_shiftedBy_0 rfl (lv_at hl 1 rfl) ?_
  refine lv_if_lt (tgt := 10) hx hb dX0_shiftedBy_1 (by decide) (fun c1 => ?_) (fun c1 => ?_)
  · replace h := q_t h c1
    refine lv_lload_n hx hb dX0_shiftedBy_10 rfl (lv_at hl 0 rfl) ?_
    refine lv_iload_n hx hb dX0_shiftedBy_11 rfl (lv_at hl 1 rfl) ?_
    refine lv_ineg hx hb dX0_shiftedBy_12 ?_
    refine lv_lushr (v := (q_ushr p0 (-p2))) hx hb dX0_shiftedBy_13 rfl ?_
    exact q_lret h C0 hr hlk hw dX0_shiftedBy_14
  · replace h := q_f h c1
    refine lv_lload_n hx hb dX0_shiftedBy_4 rfl (lv_at hl 0 rfl) ?_
    refine lv_iload_n hx hb dX0_shiftedBy_5 rfl (lv_at hl 1 rfl) ?_
    refine lv_lshl (v := (q_shl p0 p2)) hx hb dX0_shiftedBy_6 rfl ?_
    refine lv_goto (tgt := 14) hx hb dX0_shiftedBy_7 (by decide) ?_
    exact q_lret h C0 hr hlk hw dX0_shiftedBy_14
-- X0_mirrored mirrored(JI)J
theorem iX0_mirrored_X0 : ∀ w ∈ wsX00, w ∈ wsX0_mirrored := by decide +kernel
theorem eX0_shiftedBy : yX0_shiftedBy.cls ≠ "java/lang/invoke/MethodHandle" ∧ yX0_shiftedBy.cls ≠ "java/lang/invoke/VarHandle" ∧ (parseMethodDescriptor yX0_shiftedBy.desc).map (fun d => d.parameters.length) = some 2 := by decide +kernel
set_option maxHeartbeats 4000000 in
set_option maxRecDepth 100000 in
theorem tX0_mirrored_c6 {k : Nat} {p1 : Int64} {p3 : Int32} (hk : xK k = 2) (C0 : CallFix p m c cX0_mirrored 7 s args wsX0_mirrored RX0) (hr : meth.sig.returnType = (some .long)) (hlk : meth.locks = false) {out : Int64 × q_M}  : ∀ n : Nat, ∀ (v4 : Int64) (v6 : Int32) (σ : q_M) (H : Heap) (locs : List Loc) (ls : Array Slot), q_H (gX D cI cJ cS ad adK adV) (q_A (gX D cI cJ cS ad adK adV) s.heap.size) s σ H locs → lv_has ls 7 [(0, .ref (ad k)), (1, .long p1), (3, .int p3), (4, .long v4), (6, .int v6)] → fX0_mirrored_c6 k p1 p3 n v4 v6 σ = some out → W p l e { frames := 1, cells := 0, slots := 0, locals := 22 } s m args below meth c H locs 0 0 (MQ below (q_Rl (gX D cI cJ cS ad adK adV) (q_A (gX D cI cJ cS ad adK adV) s.heap.size) out) args s 0 0 (q_A (gX D cI cJ cS ad adK adV) s.heap.size)) (F0 m 6 ls []) := by
  obtain ⟨hx, hb, hml, hown, hts⟩ := id C0
  intro n
  induction n with
  | zero =>
    intro v4 v6 σ H locs ls  hw hl h
    cases (show (none : Option (Int64 × q_M)) = some out from h)
  | succ n hrec6 =>
    intro v4 v6 σ H locs ls  hw hl h
    replace h : fX0_mirrored_c6b k p1 p3 (fX0_mirrored_c6 k p1 p3 n) v4 v6 σ = some out := h
    unfold fX0_mirrored_c6b at h
    refine lv_iload hx hb dX0_mirrored_6 (lv_at hl 4 rfl) ?_
    refine lv_aload_n hx hb dX0_mirrored_8 rfl (lv_at hl 0 rfl) ?_
    refine gt_X0_0 C0 hw hk iX0_mirrored_X0 (by decide +kernel) dX0_mirrored_9 ?_
    refine lv_icmp_ge (tgt := 56) hx hb dX0_mirrored_12 (by decide) (fun c1 => ?_) (fun c1 => ?_)
    · replace h := q_t h c1
      refine lv_lload hx hb dX0_mirrored_56 (lv_at hl 3 rfl) ?_
      exact q_lret h C0 hr hlk hw dX0_mirrored_58
    · replace h := q_f h c1
      refine lv_lload hx hb dX0_mirrored_15 (lv_at hl 3 rfl) ?_
      refine lv_lload_n hx hb dX0_mirrored_17 rfl (lv_at hl 1 rfl) ?_
      refine lv_aload_n hx hb dX0_mirrored_18 rfl (lv_at hl 0 rfl) ?_
      refine lv_iload_n hx hb dX0_mirrored_19 rfl (lv_at hl 2 rfl) ?_
      refine lv_iload hx hb dX0_mirrored_20 (lv_at hl 4 rfl) ?_
      obtain ⟨o2, hco2, h⟩ := q_bind h
      refine q_calll hw (va_runV (As := [.int p3, .int v6]) (rest := [.long p1, .long v4]) C0 (kX0_layer hk hco2 _) (cwV 2 hts gX0_mirrored_X0_layer rfl rfl rfl eX0_layer ⟨(Nat.le_of_ble_eq_true rfl), (Nat.le_of_ble_eq_true rfl)⟩) ⟨q_blind, q_recv hw (xN_2 hk) (xE_2 hk) rfl, q_pre hw⟩ rfl rfl hl.1 rfl (lv_room (Nat.le_of_ble_eq_true rfl)) dX0_mirrored_22 ⟨Nat.zero_le _, Nat.zero_le _⟩) (fun H locs hw => ?_)
      refine lv_land hx hb dX0_mirrored_25 ?_
      refine lv_aload_n hx hb dX0_mirrored_26 rfl (lv_at hl 0 rfl) ?_
      refine gt_X0_0 C0 hw hk iX0_mirrored_X0 (by decide +kernel) dX0_mirrored_27 ?_
      refine lv_iconst (v := (1 : Int32)) hx hb dX0_mirrored_30 (by decide) ?_
      refine lv_isub hx hb dX0_mirrored_31 ?_
      refine lv_iconst (v := (2 : Int32)) hx hb dX0_mirrored_32 (by decide) ?_
      refine lv_iload hx hb dX0_mirrored_33 (lv_at hl 4 rfl) ?_
      refine lv_imul hx hb dX0_mirrored_35 ?_
      refine lv_isub hx hb dX0_mirrored_36 ?_
      refine lv_aload_n hx hb dX0_mirrored_37 rfl (lv_at hl 0 rfl) ?_
      refine gt_X0_3 C0 hw hk iX0_mirrored_X0 (by decide +kernel) dX0_mirrored_38 ?_
      refine lv_iload_n hx hb dX0_mirrored_41 rfl (lv_at hl 2 rfl) ?_
      obtain ⟨b3, h⟩ := q_if h
      refine q_iald (t0 := 0) C0 hw (xN_3 (xD_2_1 hk)) (xE_3 (xD_2_1 hk)) rfl b3 dX0_mirrored_42 ?_
      refine lv_imul hx hb dX0_mirrored_43 ?_
      obtain ⟨o4, hco4, h⟩ := q_bind h
      refine q_calll hw (va_runS (As := [.long (p1 &&& o2.1), .int ((((o2.2.1 k 0) - (1 : Int32)) - ((2 : Int32) * v6)) * (o2.2.1 (k + 1) p3.toNatClampNeg))]) (rest := [.long v4]) C0 (kX0_shiftedBy hco4 _) (va_cwS 2 hts gX0_mirrored_X0_shiftedBy rfl rfl rfl eX0_shiftedBy ⟨(Nat.le_of_ble_eq_true rfl), (Nat.le_of_ble_eq_true rfl)⟩) ⟨q_blind, q_pre hw⟩ rfl rfl hl.1 rfl (lv_room (Nat.le_of_ble_eq_true rfl)) dX0_mirrored_44 ⟨Nat.zero_le _, Nat.zero_le _⟩) (fun H locs hw => ?_)
      refine lv_lor hx hb dX0_mirrored_47 ?_
      refine lv_lstore (lv' := [(4, .long (v4 ||| o4.1)), (0, .ref (ad k)), (1, .long p1), (3, .int p3), (6, .int v6)]) hx hb dX0_mirrored_48 hl (by decide) rfl (fun ls hl => ?_)
      refine lv_iinc (v := (v6 + (1 : Int32))) (lv' := [(6, .int (v6 + (1 : Int32))), (4, .long (v4 ||| o4.1)), (0, .ref (ad k)), (1, .long p1), (3, .int p3)]) hx hb dX0_mirrored_50 hl (k := 4) rfl rfl (by decide) rfl (fun ls hl => ?_)
      refine lv_goto (tgt := 6) hx hb dX0_mirrored_53 (by decide) ?_
      exact hrec6 (v4 ||| o4.1) (v6 + (1 : Int32)) o4.2 _ _ _ hw (lv_sub hl [2, 3, 4, 1, 0] rfl) h
set_option maxHeartbeats 4000000 in
set_option maxRecDepth 100000 in
theorem kX0_mirrored {k : Nat} {p1 : Int64} {p3 : Int32} (hk : xK k = 2) {σ : q_M} {out : Int64 × q_M} (h : fX0_mirrored k p1 p3 σ = some out) : q_Ml l (gX D cI cJ cS ad adK adV) yX0_mirrored wsX0_mirrored { frames := 1, cells := 0, slots := 0, locals := 22 } [.ref (ad k), .long p1, .int p3] σ out := by
  refine q_Ml_of (cc := cX0_mirrored) (maxL := 7) (ret := (some .long)) (by decide) rfl (Nat.le_of_ble_eq_true rfl) ?_
  intro p e s m below meth c ls C0 hr hlk hl hw
  obtain ⟨hx, hb, hml, hown, hts⟩ := id C0
  replace hl : lv_has ls 7 [(0, .ref (ad k)), (1, .long p1), (3, .int p3)] := hl
  unfold fX0_mirrored at h
  refine lv_lconst (v := (0 : Int64)) hx hb dX0_mirrored_0 (by decide) ?_
  refine lv_lstore (lv' := [(4, .long (0 : Int64)), (0, .ref (ad k)), (1, .long p1), (3, .int p3)]) hx hb dX0_mirrored_1 hl (by decide) rfl (fun ls hl => ?_)
  refine lv_iconst (v := (0 : Int32)) hx hb dX0_mirrored_3 (by decide) ?_
  refine lv_istore (lv' := [(6, .int (0 : Int32)), (4, .long (0 : Int64)), (0, .ref (ad k)), (1, .long p1), (3, .int p3)]) hx hb dX0_mirrored_4 hl (by decide) rfl (fun ls hl => ?_)
  exact tX0_mirrored_c6 hk C0 hr hlk q_FU (0 : Int64) (0 : Int32) σ _ _ _ hw (lv_sub hl [2, 3, 4, 1, 0] rfl) h
-- X0_turned turned(JI)J
theorem iX0_turned_X0 : ∀ w ∈ wsX00, w ∈ wsX0_turned := by decide +kernel
set_option maxHeartbeats 4000000 in
set_option maxRecDepth 100000 in
theorem tX0_turned_c41 {k : Nat} {p1 : Int64} {p3 : Int32} {rec29 : Int32 → Int32 → Int64 → Int32 → q_M → Option (Int64 × q_M)} (hk : xK k = 2) (C0 : CallFix p m c cX0_turned 12 s args wsX0_turned RX0) (hr : meth.sig.returnType = (some .long)) (hlk : meth.locks = false) {out : Int64 × q_M} (hrec29 : ∀ (v4 : Int32) (v5 : Int32) (v6 : Int64) (v8 : Int32) (σ : q_M) (H : Heap) (locs : List Loc) (ls : Array Slot), q_H (gX D cI cJ cS ad adK adV) (q_A (gX D cI cJ cS ad adK adV) s.heap.size) s σ H locs → lv_has ls 12 [(0, .ref (ad k)), (1, .long p1), (4, .int v4), (5, .int v5), (6, .long v6), (8, .int v8)] → rec29 v4 v5 v6 v8 σ = some out → W p l e { frames := 1, cells := 0, slots := 0, locals := 22 } s m args below meth c H locs 0 0 (MQ below (q_Rl (gX D cI cJ cS ad adK adV) (q_A (gX D cI cJ cS ad adK adV) s.heap.size) out) args s 0 0 (q_A (gX D cI cJ cS ad adK adV) s.heap.size)) (F0 m 29 ls [])) : ∀ n : Nat, ∀ (v4 : Int32) (v5 : Int32) (v6 : Int64) (v8 : Int32) (v9 : Int32) (σ : q_M) (H : Heap) (locs : List Loc) (ls : Array Slot), q_H (gX D cI cJ cS ad adK adV) (q_A (gX D cI cJ cS ad adK adV) s.heap.size) s σ H locs → lv_has ls 12 [(0, .ref (ad k)), (1, .long p1), (4, .int v4), (5, .int v5), (6, .long v6), (8, .int v8), (9, .int v9)] → fX0_turned_c41 k p1 p3 rec29 n v4 v5 v6 v8 v9 σ = some out → W p l e { frames := 1, cells := 0, slots := 0, locals := 22 } s m args below meth c H locs 0 0 (MQ below (q_Rl (gX D cI cJ cS ad adK adV) (q_A (gX D cI cJ cS ad adK adV) s.heap.size) out) args s 0 0 (q_A (gX D cI cJ cS ad adK adV) s.heap.size)) (F0 m 41 ls []) := by
  obtain ⟨hx, hb, hml, hown, hts⟩ := id C0
  intro n
  induction n with
  | zero =>
    intro v4 v5 v6 v8 v9 σ H locs ls  hw hl h
    cases (show (none : Option (Int64 × q_M)) = some out from h)
  | succ n hrec41 =>
    intro v4 v5 v6 v8 v9 σ H locs ls  hw hl h
    replace h : fX0_turned_c41b k p1 p3 rec29 (fX0_turned_c41 k p1 p3 rec29 n) v4 v5 v6 v8 v9 σ = some out := h
    unfold fX0_turned_c41b at h
    refine lv_iload hx hb dX0_turned_41 (lv_at hl 6 rfl) ?_
    refine lv_aload_n hx hb dX0_turned_43 rfl (lv_at hl 0 rfl) ?_
    refine gt_X0_0 C0 hw hk iX0_turned_X0 (by decide +kernel) dX0_turned_44 ?_
    refine lv_icmp_ge (tgt := 121) hx hb dX0_turned_47 (by decide) (fun c1 => ?_) (fun c1 => ?_)
    · replace h := q_t h c1
      refine lv_iinc (v := (v8 + (1 : Int32))) (lv' := [(8, .int (v8 + (1 : Int32))), (0, .ref (ad k)), (1, .long p1), (4, .int v4), (5, .int v5), (6, .long v6), (9, .int v9)]) hx hb dX0_turned_121 hl (k := 5) rfl rfl (by decide) rfl (fun ls hl => ?_)
      refine lv_goto (tgt := 29) hx hb dX0_turned_124 (by decide) ?_
      exact hrec29 v4 v5 v6 (v8 + (1 : Int32)) σ _ _ _ hw (lv_sub hl [1, 2, 3, 4, 5, 0] rfl) h
    · replace h := q_f h c1
      refine lv_lload_n hx hb dX0_turned_50 rfl (lv_at hl 1 rfl) ?_
      refine lv_aload_n hx hb dX0_turned_51 rfl (lv_at hl 0 rfl) ?_
      refine lv_iload hx hb dX0_turned_52 (lv_at hl 2 rfl) ?_
      refine lv_iload hx hb dX0_turned_54 (lv_at hl 5 rfl) ?_
      obtain ⟨o2, hco2, h⟩ := q_bind h
      refine q_calll hw (va_runV (As := [.int v4, .int v8]) (rest := [.long p1]) C0 (kX0_layer hk hco2 _) (cwV 2 hts gX0_turned_X0_layer rfl rfl rfl eX0_layer ⟨(Nat.le_of_ble_eq_true rfl), (Nat.le_of_ble_eq_true rfl)⟩) ⟨q_blind, q_recv hw (xN_2 hk) (xE_2 hk) rfl, q_pre hw⟩ rfl rfl hl.1 rfl (lv_room (Nat.le_of_ble_eq_true rfl)) dX0_turned_56 ⟨Nat.zero_le _, Nat.zero_le _⟩) (fun H locs hw => ?_)
      refine lv_land hx hb dX0_turned_59 ?_
      refine lv_aload_n hx hb dX0_turned_60 rfl (lv_at hl 0 rfl) ?_
      refine lv_iload hx hb dX0_turned_61 (lv_at hl 3 rfl) ?_
      refine lv_iload hx hb dX0_turned_63 (lv_at hl 6 rfl) ?_
      obtain ⟨o3, hco3, h⟩ := q_bind h
      refine q_calll hw (va_runV (As := [.int v5, .int v9]) (rest := [.long (p1 &&& o2.1)]) C0 (kX0_layer hk hco3 _) (cwV 2 hts gX0_turned_X0_layer rfl rfl rfl eX0_layer ⟨(Nat.le_of_ble_eq_true rfl), (Nat.le_of_ble_eq_true rfl)⟩) ⟨q_blind, q_recv hw (xN_2 hk) (xE_2 hk) rfl, q_pre hw⟩ rfl rfl hl.1 rfl (lv_room (Nat.le_of_ble_eq_true rfl)) dX0_turned_65 ⟨Nat.zero_le _, Nat.zero_le _⟩) (fun H locs hw => ?_)
      refine lv_land hx hb dX0_turned_68 ?_
      refine lv_lstore (lv' := [(10, .long ((p1 &&& o2.1) &&& o3.1)), (0, .ref (ad k)), (1, .long p1), (4, .int v4), (5, .int v5), (6, .long v6), (8, .int v8), (9, .int v9)]) hx hb dX0_turned_69 hl (by decide) rfl (fun ls hl => ?_)
      refine lv_lload hx hb dX0_turned_71 (lv_at hl 5 rfl) ?_
      refine lv_lload hx hb dX0_turned_73 (lv_at hl 0 rfl) ?_
      refine lv_iload hx hb dX0_turned_75 (lv_at hl 7 rfl) ?_
      refine lv_iload hx hb dX0_turned_77 (lv_at hl 6 rfl) ?_
      refine lv_isub hx hb dX0_turned_79 ?_
      refine lv_aload_n hx hb dX0_turned_80 rfl (lv_at hl 1 rfl) ?_
      refine gt_X0_3 C0 hw hk iX0_turned_X0 (by decide +kernel) dX0_turned_81 ?_
      refine lv_iload hx hb dX0_turned_84 (lv_at hl 3 rfl) ?_
      obtain ⟨b4, h⟩ := q_if h
      refine q_iald (t0 := 0) C0 hw (xN_3 (xD_2_1 hk)) (xE_3 (xD_2_1 hk)) rfl b4 dX0_turned_86 ?_
      refine lv_imul hx hb dX0_turned_87 ?_
      refine lv_aload_n hx hb dX0_turned_88 rfl (lv_at hl 1 rfl) ?_
      refine gt_X0_0 C0 hw hk iX0_turned_X0 (by decide +kernel) dX0_turned_89 ?_
      refine lv_iconst (v := (1 : Int32)) hx hb dX0_turned_92 (by decide) ?_
      refine lv_isub hx hb dX0_turned_93 ?_
      refine lv_iload hx hb dX0_turned_94 (lv_at hl 6 rfl) ?_
      refine lv_isub hx hb dX0_turned_96 ?_
      refine lv_iload hx hb dX0_turned_97 (lv_at hl 7 rfl) ?_
      refine lv_isub hx hb dX0_turned_99 ?_
      refine lv_aload_n hx hb dX0_turned_100 rfl (lv_at hl 1 rfl) ?_
      refine gt_X0_3 C0 hw hk iX0_turned_X0 (by decide +kernel) dX0_turned_101 ?_
      refine lv_iload hx hb dX0_turned_104 (lv_at hl 4 rfl) ?_
      obtain ⟨b5, h⟩ := q_if h
      refine q_iald (t0 := 0) C0 hw (xN_3 (xD_2_1 hk)) (xE_3 (xD_2_1 hk)) rfl b5 dX0_turned_106 ?_
      refine lv_imul hx hb dX0_turned_107 ?_
      refine lv_iadd hx hb dX0_turned_108 ?_
      obtain ⟨o6, hco6, h⟩ := q_bind h
      refine q_calll hw (va_runS (As := [.long ((p1 &&& o2.1) &&& o3.1), .int (((v9 - v8) * (o3.2.1 (k + 1) v4.toNatClampNeg)) + (((((o3.2.1 k 0) - (1 : Int32)) - v8) - v9) * (o3.2.1 (k + 1) v5.toNatClampNeg)))]) (rest := [.long v6]) C0 (kX0_shiftedBy hco6 _) (va_cwS 2 hts gX0_turned_X0_shiftedBy rfl rfl rfl eX0_shiftedBy ⟨(Nat.le_of_ble_eq_true rfl), (Nat.le_of_ble_eq_true rfl)⟩) ⟨q_blind, q_pre hw⟩ rfl rfl hl.1 rfl (lv_room (Nat.le_of_ble_eq_true rfl)) dX0_turned_109 ⟨Nat.zero_le _, Nat.zero_le _⟩) (fun H locs hw => ?_)
      refine lv_lor hx hb dX0_turned_112 ?_
      refine lv_lstore (lv' := [(6, .long (v6 ||| o6.1)), (10, .long ((p1 &&& o2.1) &&& o3.1)), (0, .ref (ad k)), (1, .long p1), (4, .int v4), (5, .int v5), (8, .int v8), (9, .int v9)]) hx hb dX0_turned_113 hl (by decide) rfl (fun ls hl => ?_)
      refine lv_iinc (v := (v9 + (1 : Int32))) (lv' := [(9, .int (v9 + (1 : Int32))), (6, .long (v6 ||| o6.1)), (10, .long ((p1 &&& o2.1) &&& o3.1)), (0, .ref (ad k)), (1, .long p1), (4, .int v4), (5, .int v5), (8, .int v8)]) hx hb dX0_turned_115 hl (k := 7) rfl rfl (by decide) rfl (fun ls hl => ?_)
      refine lv_goto (tgt := 41) hx hb dX0_turned_118 (by decide) ?_
      exact hrec41 v4 v5 (v6 ||| o6.1) v8 (v9 + (1 : Int32)) o6.2 _ _ _ hw (lv_sub hl [3, 4, 5, 6, 1, 7, 0] rfl) h
set_option maxHeartbeats 4000000 in
set_option maxRecDepth 100000 in
theorem tX0_turned_c29 {k : Nat} {p1 : Int64} {p3 : Int32} (hk : xK k = 2) (C0 : CallFix p m c cX0_turned 12 s args wsX0_turned RX0) (hr : meth.sig.returnType = (some .long)) (hlk : meth.locks = false) {out : Int64 × q_M}  : ∀ n : Nat, ∀ (v4 : Int32) (v5 : Int32) (v6 : Int64) (v8 : Int32) (σ : q_M) (H : Heap) (locs : List Loc) (ls : Array Slot), q_H (gX D cI cJ cS ad adK adV) (q_A (gX D cI cJ cS ad adK adV) s.heap.size) s σ H locs → lv_has ls 12 [(0, .ref (ad k)), (1, .long p1), (4, .int v4), (5, .int v5), (6, .long v6), (8, .int v8)] → fX0_turned_c29 k p1 p3 n v4 v5 v6 v8 σ = some out → W p l e { frames := 1, cells := 0, slots := 0, locals := 22 } s m args below meth c H locs 0 0 (MQ below (q_Rl (gX D cI cJ cS ad adK adV) (q_A (gX D cI cJ cS ad adK adV) s.heap.size) out) args s 0 0 (q_A (gX D cI cJ cS ad adK adV) s.heap.size)) (F0 m 29 ls []) := by
  obtain ⟨hx, hb, hml, hown, hts⟩ := id C0
  intro n
  induction n with
  | zero =>
    intro v4 v5 v6 v8 σ H locs ls  hw hl h
    cases (show (none : Option (Int64 × q_M)) = some out from h)
  | succ n hrec29 =>
    intro v4 v5 v6 v8 σ H locs ls  hw hl h
    replace h : fX0_turned_c29b k p1 p3 (fX0_turned_c29 k p1 p3 n) v4 v5 v6 v8 σ = some out := h
    unfold fX0_turned_c29b at h
    refine lv_iload hx hb dX0_turned_29 (lv_at hl 5 rfl) ?_
    refine lv_aload_n hx hb dX0_turned_31 rfl (lv_at hl 0 rfl) ?_
    refine gt_X0_0 C0 hw hk iX0_turned_X0 (by decide +kernel) dX0_turned_32 ?_
    refine lv_icmp_ge (tgt := 127) hx hb dX0_turned_35 (by decide) (fun c1 => ?_) (fun c1 => ?_)
    · replace h := q_t h c1
      refine lv_lload hx hb dX0_turned_127 (lv_at hl 4 rfl) ?_
      exact q_lret h C0 hr hlk hw dX0_turned_129
    · replace h := q_f h c1
      refine lv_iconst (v := (0 : Int32)) hx hb dX0_turned_38 (by decide) ?_
      refine lv_istore (lv' := [(9, .int (0 : Int32)), (0, .ref (ad k)), (1, .long p1), (4, .int v4), (5, .int v5), (6, .long v6), (8, .int v8)]) hx hb dX0_turned_39 hl (by decide) rfl (fun ls hl => ?_)
      exact tX0_turned_c41 hk C0 hr hlk hrec29 q_FU v4 v5 v6 v8 (0 : Int32) σ _ _ _ hw (lv_sub hl [1, 2, 3, 4, 5, 6, 0] rfl) h
set_option maxHeartbeats 4000000 in
set_option maxRecDepth 100000 in
theorem tX0_turned_c9 {k : Nat} {p1 : Int64} {p3 : Int32} (hk : xK k = 2) (C0 : CallFix p m c cX0_turned 12 s args wsX0_turned RX0) (hr : meth.sig.returnType = (some .long)) (hlk : meth.locks = false) {out : Int64 × q_M}  : ∀ (s0 : Int32) (σ : q_M) (H : Heap) (locs : List Loc) (ls : Array Slot), q_H (gX D cI cJ cS ad adK adV) (q_A (gX D cI cJ cS ad adK adV) s.heap.size) s σ H locs → lv_has ls 12 [(0, .ref (ad k)), (1, .long p1), (3, .int p3)] → fX0_turned_c9 k p1 p3 s0 σ = some out → W p l e { frames := 1, cells := 0, slots := 0, locals := 22 } s m args below meth c H locs 0 0 (MQ below (q_Rl (gX D cI cJ cS ad adK adV) (q_A (gX D cI cJ cS ad adK adV) s.heap.size) out) args s 0 0 (q_A (gX D cI cJ cS ad adK adV) s.heap.size)) (F0 m 9 ls [.int s0]) := by
  obtain ⟨hx, hb, hml, hown, hts⟩ := id C0
  intro s0 σ H locs ls  hw hl h
  unfold fX0_turned_c9 at h
  refine lv_istore (lv' := [(4, .int s0), (0, .ref (ad k)), (1, .long p1), (3, .int p3)]) hx hb dX0_turned_9 hl (by decide) rfl (fun ls hl => ?_)
  refine lv_iload_n hx hb dX0_turned_11 rfl (lv_at hl 3 rfl) ?_
  refine lv_iconst (v := (2 : Int32)) hx hb dX0_turned_12 (by decide) ?_
  refine lv_icmp_ne (tgt := 20) hx hb dX0_turned_13 (by decide) (fun c1 => ?_) (fun c1 => ?_)
  · replace h := q_f h c1
    refine lv_iconst (v := (2 : Int32)) hx hb dX0_turned_20 (by decide) ?_
    refine lv_istore (lv' := [(5, .int (2 : Int32)), (4, .int s0), (0, .ref (ad k)), (1, .long p1), (3, .int p3)]) hx hb dX0_turned_21 hl (by decide) rfl (fun ls hl => ?_)
    refine lv_lconst (v := (0 : Int64)) hx hb dX0_turned_23 (by decide) ?_
    refine lv_lstore (lv' := [(6, .long (0 : Int64)), (5, .int (2 : Int32)), (4, .int s0), (0, .ref (ad k)), (1, .long p1), (3, .int p3)]) hx hb dX0_turned_24 hl (by decide) rfl (fun ls hl => ?_)
    refine lv_iconst (v := (0 : Int32)) hx hb dX0_turned_26 (by decide) ?_
    refine lv_istore (lv' := [(8, .int (0 : Int32)), (6, .long (0 : Int64)), (5, .int (2 : Int32)), (4, .int s0), (0, .ref (ad k)), (1, .long p1), (3, .int p3)]) hx hb dX0_turned_27 hl (by decide) rfl (fun ls hl => ?_)
    exact tX0_turned_c29 hk C0 hr hlk q_FU s0 (2 : Int32) (0 : Int64) (0 : Int32) σ _ _ _ hw (lv_sub hl [4, 5, 3, 2, 1, 0] rfl) h
  · replace h := q_t h c1
    refine lv_iconst (v := (1 : Int32)) hx hb dX0_turned_16 (by decide) ?_
    refine lv_goto (tgt := 21) hx hb dX0_turned_17 (by decide) ?_
    refine lv_istore (lv' := [(5, .int (1 : Int32)), (4, .int s0), (0, .ref (ad k)), (1, .long p1), (3, .int p3)]) hx hb dX0_turned_21 hl (by decide) rfl (fun ls hl => ?_)
    refine lv_lconst (v := (0 : Int64)) hx hb dX0_turned_23 (by decide) ?_
    refine lv_lstore (lv' := [(6, .long (0 : Int64)), (5, .int (1 : Int32)), (4, .int s0), (0, .ref (ad k)), (1, .long p1), (3, .int p3)]) hx hb dX0_turned_24 hl (by decide) rfl (fun ls hl => ?_)
    refine lv_iconst (v := (0 : Int32)) hx hb dX0_turned_26 (by decide) ?_
    refine lv_istore (lv' := [(8, .int (0 : Int32)), (6, .long (0 : Int64)), (5, .int (1 : Int32)), (4, .int s0), (0, .ref (ad k)), (1, .long p1), (3, .int p3)]) hx hb dX0_turned_27 hl (by decide) rfl (fun ls hl => ?_)
    exact tX0_turned_c29 hk C0 hr hlk q_FU s0 (1 : Int32) (0 : Int64) (0 : Int32) σ _ _ _ hw (lv_sub hl [4, 5, 3, 2, 1, 0] rfl) h
set_option maxHeartbeats 4000000 in
set_option maxRecDepth 100000 in
theorem kX0_turned {k : Nat} {p1 : Int64} {p3 : Int32} (hk : xK k = 2) {σ : q_M} {out : Int64 × q_M} (h : fX0_turned k p1 p3 σ = some out) : q_Ml l (gX D cI cJ cS ad adK adV) yX0_turned wsX0_turned { frames := 1, cells := 0, slots := 0, locals := 22 } [.ref (ad k), .long p1, .int p3] σ out := by
  refine q_Ml_of (cc := cX0_turned) (maxL := 12) (ret := (some .long)) (by decide) rfl (Nat.le_of_ble_eq_true rfl) ?_
  intro p e s m below meth c ls C0 hr hlk hl hw
  obtain ⟨hx, hb, hml, hown, hts⟩ := id C0
  replace hl : lv_has ls 12 [(0, .ref (ad k)), (1, .long p1), (3, .int p3)] := hl
  unfold fX0_turned at h
  refine lv_iload_n hx hb dX0_turned_0 rfl (lv_at hl 2 rfl) ?_
  refine lv_if_ne (tgt := 8) hx hb dX0_turned_1 (by decide) (fun c1 => ?_) (fun c1 => ?_)
  · replace h := q_f h c1
    refine lv_iconst (v := (0 : Int32)) hx hb dX0_turned_8 (by decide) ?_
    exact tX0_turned_c9 hk C0 hr hlk (0 : Int32) σ _ _ _ hw (lv_sub hl [0, 1, 2] rfl) h
  · replace h := q_t h c1
    refine lv_iconst (v := (1 : Int32)) hx hb dX0_turned_4 (by decide) ?_
    refine lv_goto (tgt := 9) hx hb dX0_turned_5 (by decide) ?_
    exact tX0_turned_c9 hk C0 hr hlk (1 : Int32) σ _ _ _ hw (lv_sub hl [0, 1, 2] rfl) h
end
