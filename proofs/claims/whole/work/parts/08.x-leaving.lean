section
variable {p : Program} {l : Launch} {e : Env} {s : State} {m : MethodId} {args : Array Value} {below : List Frame} {meth : Method} {c : Code} {D : va_G} {cI cJ cS : ClassId} {ad adK adV : Nat → Nat}
-- X1_look look(LMouldThatComesOff$Block;J)V
theorem iX1_look_X0 : ∀ w ∈ wsX00, w ∈ wsX1_look := by decide +kernel
theorem iX1_look_X1 : ∀ w ∈ wsX10, w ∈ wsX1_look := by decide +kernel
theorem eX0_behind : yX0_behind.cls = RX0 ∧ yX0_behind.cls ≠ "java/lang/invoke/MethodHandle" ∧ yX0_behind.cls ≠ "java/lang/invoke/VarHandle" ∧ (parseMethodDescriptor yX0_behind.desc).map (fun d => d.parameters.length) = some 2 := by decide +kernel
set_option maxHeartbeats 4000000 in
set_option maxRecDepth 100000 in
theorem tX1_look_c17 {k1 : Nat} {p2 : Int64} (hk1 : xK k1 = 2) (C0 : CallFix p m c cX1_look 5 s args wsX1_look RX1) (hr : meth.sig.returnType = none) (hlk : meth.locks = false) {out : q_M}  : ∀ n : Nat, ∀ (v4 : Int32) (σ : q_M) (H : Heap) (locs : List Loc) (ls : Array Slot), q_H (gX D cI cJ cS ad adK adV) (q_A (gX D cI cJ cS ad adK adV) s.heap.size) s σ H locs → lv_has ls 5 [(0, .ref (ad 25)), (1, .ref (ad k1)), (2, .long p2), (4, .int v4)] → fX1_look_c17 k1 p2 n v4 σ = some out → W p l e { frames := 2, cells := 0, slots := 0, locals := 54 } s m args below meth c H locs 0 0 (MQ below (q_Rv (gX D cI cJ cS ad adK adV) (q_A (gX D cI cJ cS ad adK adV) s.heap.size) out) args s 0 0 (q_A (gX D cI cJ cS ad adK adV) s.heap.size)) (F0 m 17 ls []) := by
  obtain ⟨hx, hb, hml, hown, hts⟩ := id C0
  intro n
  induction n with
  | zero =>
    intro v4 σ H locs ls  hw hl h
    cases (show (none : Option (q_M)) = some out from h)
  | succ n hrec17 =>
    intro v4 σ H locs ls  hw hl h
    replace h : fX1_look_c17b k1 p2 (fX1_look_c17 k1 p2 n) v4 σ = some out := h
    unfold fX1_look_c17b at h
    refine lv_iload hx hb dX1_look_17 (lv_at hl 3 rfl) ?_
    refine lv_bipush (v := (6 : Int32)) hx hb dX1_look_19 (by decide) ?_
    refine lv_icmp_ge (tgt := 53) hx hb dX1_look_21 (by decide) (fun c1 => ?_) (fun c1 => ?_)
    · replace h := q_t h c1
      exact q_vret h C0 hr hlk hw dX1_look_53
    · replace h := q_f h c1
      refine lv_aload_n hx hb dX1_look_24 rfl (lv_at hl 0 rfl) ?_
      refine gt_X1_1 C0 hw xF_25 iX1_look_X1 (by decide +kernel) dX1_look_25 ?_
      refine lv_iload hx hb dX1_look_28 (lv_at hl 3 rfl) ?_
      refine lv_aload_n hx hb dX1_look_30 rfl (lv_at hl 0 rfl) ?_
      refine gt_X1_0 C0 hw xF_25 iX1_look_X1 (by decide +kernel) dX1_look_31 ?_
      refine lv_aload_n hx hb dX1_look_34 rfl (lv_at hl 1 rfl) ?_
      refine lv_lload_n hx hb dX1_look_35 rfl (lv_at hl 2 rfl) ?_
      refine lv_iload hx hb dX1_look_36 (lv_at hl 3 rfl) ?_
      obtain ⟨o2, hco2, h⟩ := q_bind h
      refine q_calll hw (va_runV (As := [.long p2, .int v4]) (rest := [.long (σ.2 25 0), .int v4, .ref (ad 26)]) C0 (kX0_behind hk1 hco2 _) (cwV 2 hts gX1_look_X0_behind rfl rfl rfl eX0_behind ⟨(Nat.le_of_ble_eq_true rfl), (Nat.le_of_ble_eq_true rfl)⟩) ⟨q_blind, q_recv hw (xN_2 hk1) (xE_2 hk1) rfl, q_pre hw⟩ rfl rfl hl.1 rfl (lv_room (Nat.le_of_ble_eq_true rfl)) dX1_look_38 ⟨Nat.zero_le _, Nat.zero_le _⟩) (fun H locs hw => ?_)
      refine lv_ldc2 (v := (-1 : Int64)) hx hb hown (hts (.constantLong RX1 27 (-1)) (by decide +kernel)) dX1_look_41 ?_
      refine lv_lxor hx hb dX1_look_44 ?_
      refine lv_land hx hb dX1_look_45 ?_
      obtain ⟨b3, h⟩ := q_if h
      refine q_last (t0 := 1) C0 hw (xN_12 xF_26) (xE_12 xF_26) rfl b3 dX1_look_46 (fun σ4 H locs e_σ4 hw => ?_)
      replace h := q_let_at e_σ4 h
      refine lv_iinc (v := (v4 + (1 : Int32))) (lv' := [(4, .int (v4 + (1 : Int32))), (0, .ref (ad 25)), (1, .ref (ad k1)), (2, .long p2)]) hx hb dX1_look_47 hl (k := 3) rfl rfl (by decide) rfl (fun ls hl => ?_)
      refine lv_goto (tgt := 17) hx hb dX1_look_50 (by decide) ?_
      exact hrec17 (v4 + (1 : Int32)) σ4 _ _ _ hw (lv_sub hl [1, 2, 3, 0] rfl) h
set_option maxHeartbeats 4000000 in
set_option maxRecDepth 100000 in
theorem kX1_look {k1 : Nat} {p2 : Int64} (hk1 : xK k1 = 2) {σ : q_M} {out : q_M} (h : fX1_look k1 p2 σ = some out) : q_Mv l (gX D cI cJ cS ad adK adV) yX1_look wsX1_look { frames := 2, cells := 0, slots := 0, locals := 54 } [.ref (ad 25), .ref (ad k1), .long p2] σ out := by
  refine q_Mv_of (cc := cX1_look) (maxL := 5) (ret := none) (by decide) rfl (Nat.le_of_ble_eq_true rfl) ?_
  intro p e s m below meth c ls C0 hr hlk hl hw
  obtain ⟨hx, hb, hml, hown, hts⟩ := id C0
  replace hl : lv_has ls 5 [(0, .ref (ad 25)), (1, .ref (ad k1)), (2, .long p2)] := hl
  unfold fX1_look at h
  refine lv_aload_n hx hb dX1_look_0 rfl (lv_at hl 0 rfl) ?_
  refine lv_aload_n hx hb dX1_look_1 rfl (lv_at hl 1 rfl) ?_
  refine gt_X0_2 C0 hw hk1 iX1_look_X0 (by decide +kernel) dX1_look_2 ?_
  refine lv_lload_n hx hb dX1_look_5 rfl (lv_at hl 2 rfl) ?_
  refine lv_ldc2 (v := (-1 : Int64)) hx hb hown (hts (.constantLong RX1 27 (-1)) (by decide +kernel)) dX1_look_6 ?_
  refine lv_lxor hx hb dX1_look_9 ?_
  refine lv_land hx hb dX1_look_10 ?_
  refine pt_X1_0 C0 hw xF_25 iX1_look_X1 (by decide +kernel) dX1_look_11 (fun σ1 H locs e_σ1 hw => ?_)
  replace h := q_let_at e_σ1 h
  refine lv_iconst (v := (0 : Int32)) hx hb dX1_look_14 (by decide) ?_
  refine lv_istore (lv' := [(4, .int (0 : Int32)), (0, .ref (ad 25)), (1, .ref (ad k1)), (2, .long p2)]) hx hb dX1_look_15 hl (by decide) rfl (fun ls hl => ?_)
  exact tX1_look_c17 hk1 C0 hr hlk q_FU (0 : Int32) σ1 _ _ _ hw (lv_sub hl [1, 2, 3, 0] rfl) h
-- X1_waysOf waysOf(J)I
theorem iX1_waysOf_X1 : ∀ w ∈ wsX10, w ∈ wsX1_waysOf := by decide +kernel
set_option maxHeartbeats 4000000 in
set_option maxRecDepth 100000 in
theorem tX1_waysOf_c5 {p1 : Int64}  (C0 : CallFix p m c cX1_waysOf 5 s args wsX1_waysOf RX1) (hr : meth.sig.returnType = (some .int)) (hlk : meth.locks = false) {out : Int32 × q_M}  : ∀ n : Nat, ∀ (v3 : Int32) (v4 : Int32) (σ : q_M) (H : Heap) (locs : List Loc) (ls : Array Slot), q_H (gX D cI cJ cS ad adK adV) (q_A (gX D cI cJ cS ad adK adV) s.heap.size) s σ H locs → lv_has ls 5 [(0, .ref (ad 25)), (1, .long p1), (3, .int v3), (4, .int v4)] → fX1_waysOf_c5 p1 n v3 v4 σ = some out → W p l e { frames := 0, cells := 0, slots := 0, locals := 0 } s m args below meth c H locs 0 0 (MQ below (q_Ri (gX D cI cJ cS ad adK adV) (q_A (gX D cI cJ cS ad adK adV) s.heap.size) out) args s 0 0 (q_A (gX D cI cJ cS ad adK adV) s.heap.size)) (F0 m 5 ls []) := by
  obtain ⟨hx, hb, hml, hown, hts⟩ := id C0
  intro n
  induction n with
  | zero =>
    intro v3 v4 σ H locs ls  hw hl h
    cases (show (none : Option (Int32 × q_M)) = some out from h)
  | succ n hrec5 =>
    intro v3 v4 σ H locs ls  hw hl h
    replace h : fX1_waysOf_c5b p1 (fX1_waysOf_c5 p1 n) v3 v4 σ = some out := h
    unfold fX1_waysOf_c5b at h
    refine lv_iload hx hb dX1_waysOf_5 (lv_at hl 3 rfl) ?_
    refine lv_bipush (v := (6 : Int32)) hx hb dX1_waysOf_7 (by decide) ?_
    refine lv_icmp_ge (tgt := 39) hx hb dX1_waysOf_9 (by decide) (fun c1 => ?_) (fun c1 => ?_)
    · replace h := q_t h c1
      refine lv_iload_n hx hb dX1_waysOf_39 rfl (lv_at hl 2 rfl) ?_
      exact q_iret h C0 hr hlk hw dX1_waysOf_40
    · replace h := q_f h c1
      refine lv_aload_n hx hb dX1_waysOf_12 rfl (lv_at hl 0 rfl) ?_
      refine gt_X1_1 C0 hw xF_25 iX1_waysOf_X1 (by decide +kernel) dX1_waysOf_13 ?_
      refine lv_iload hx hb dX1_waysOf_16 (lv_at hl 3 rfl) ?_
      obtain ⟨b2, h⟩ := q_if h
      refine q_lald (t0 := 1) C0 hw (xN_12 xF_26) (xE_12 xF_26) rfl b2 dX1_waysOf_18 ?_
      refine lv_lload_n hx hb dX1_waysOf_19 rfl (lv_at hl 1 rfl) ?_
      refine lv_land hx hb dX1_waysOf_20 ?_
      refine lv_lconst (v := (0 : Int64)) hx hb dX1_waysOf_21 (by decide) ?_
      refine q_lcmp_eq (tgt := 33) C0 dX1_waysOf_22 dX1_waysOf_23 (by decide) (fun c3 => ?_) (fun c3 => ?_)
      · replace h := q_t h c3
        refine lv_iinc (v := (v4 + (1 : Int32))) (lv' := [(4, .int (v4 + (1 : Int32))), (0, .ref (ad 25)), (1, .long p1), (3, .int v3)]) hx hb dX1_waysOf_33 hl (k := 3) rfl rfl (by decide) rfl (fun ls hl => ?_)
        refine lv_goto (tgt := 5) hx hb dX1_waysOf_36 (by decide) ?_
        exact hrec5 v3 (v4 + (1 : Int32)) σ _ _ _ hw (lv_sub hl [1, 2, 3, 0] rfl) h
      · replace h := q_f h c3
        refine lv_iload_n hx hb dX1_waysOf_26 rfl (lv_at hl 2 rfl) ?_
        refine lv_iconst (v := (1 : Int32)) hx hb dX1_waysOf_27 (by decide) ?_
        refine lv_iload hx hb dX1_waysOf_28 (lv_at hl 3 rfl) ?_
        refine q_ishl (v := (q_sl (1 : Int32) v4)) C0 dX1_waysOf_30 rfl ?_
        refine lv_ior hx hb dX1_waysOf_31 ?_
        refine lv_topi (fun x4 e_x4 => ?_)
        replace h := q_let_at e_x4 h
        refine lv_istore_n (lv' := [(3, .int x4), (0, .ref (ad 25)), (1, .long p1), (4, .int v4)]) hx hb dX1_waysOf_32 rfl hl (by decide) rfl (fun ls hl => ?_)
        refine lv_iinc (v := (v4 + (1 : Int32))) (lv' := [(4, .int (v4 + (1 : Int32))), (3, .int x4), (0, .ref (ad 25)), (1, .long p1)]) hx hb dX1_waysOf_33 hl (k := 3) rfl rfl (by decide) rfl (fun ls hl => ?_)
        refine lv_goto (tgt := 5) hx hb dX1_waysOf_36 (by decide) ?_
        exact hrec5 x4 (v4 + (1 : Int32)) σ _ _ _ hw (lv_sub hl [2, 3, 1, 0] rfl) h
set_option maxHeartbeats 4000000 in
set_option maxRecDepth 100000 in
theorem kX1_waysOf {p1 : Int64}  {σ : q_M} {out : Int32 × q_M} (h : fX1_waysOf p1 σ = some out) : q_Mi l (gX D cI cJ cS ad adK adV) yX1_waysOf wsX1_waysOf { frames := 0, cells := 0, slots := 0, locals := 0 } [.ref (ad 25), .long p1] σ out := by
  refine q_Mi_of (cc := cX1_waysOf) (maxL := 5) (ret := (some .int)) (by decide) rfl (Nat.le_of_ble_eq_true rfl) ?_
  intro p e s m below meth c ls C0 hr hlk hl hw
  obtain ⟨hx, hb, hml, hown, hts⟩ := id C0
  replace hl : lv_has ls 5 [(0, .ref (ad 25)), (1, .long p1)] := hl
  unfold fX1_waysOf at h
  refine lv_iconst (v := (0 : Int32)) hx hb dX1_waysOf_0 (by decide) ?_
  refine lv_istore_n (lv' := [(3, .int (0 : Int32)), (0, .ref (ad 25)), (1, .long p1)]) hx hb dX1_waysOf_1 rfl hl (by decide) rfl (fun ls hl => ?_)
  refine lv_iconst (v := (0 : Int32)) hx hb dX1_waysOf_2 (by decide) ?_
  refine lv_istore (lv' := [(4, .int (0 : Int32)), (3, .int (0 : Int32)), (0, .ref (ad 25)), (1, .long p1)]) hx hb dX1_waysOf_3 hl (by decide) rfl (fun ls hl => ?_)
  exact tX1_waysOf_c5 C0 hr hlk q_FU (0 : Int32) (0 : Int32) σ _ _ _ hw (lv_sub hl [2, 3, 1, 0] rfl) h
-- X1_freeByOneOf freeByOneOf(I)J
theorem iX1_freeByOneOf_X1 : ∀ w ∈ wsX10, w ∈ wsX1_freeByOneOf := by decide +kernel
set_option maxHeartbeats 4000000 in
set_option maxRecDepth 100000 in
theorem tX1_freeByOneOf_c5 {p1 : Int32}  (C0 : CallFix p m c cX1_freeByOneOf 5 s args wsX1_freeByOneOf RX1) (hr : meth.sig.returnType = (some .long)) (hlk : meth.locks = false) {out : Int64 × q_M}  : ∀ n : Nat, ∀ (v2 : Int64) (v4 : Int32) (σ : q_M) (H : Heap) (locs : List Loc) (ls : Array Slot), q_H (gX D cI cJ cS ad adK adV) (q_A (gX D cI cJ cS ad adK adV) s.heap.size) s σ H locs → lv_has ls 5 [(0, .ref (ad 25)), (1, .int p1), (2, .long v2), (4, .int v4)] → fX1_freeByOneOf_c5 p1 n v2 v4 σ = some out → W p l e { frames := 0, cells := 0, slots := 0, locals := 0 } s m args below meth c H locs 0 0 (MQ below (q_Rl (gX D cI cJ cS ad adK adV) (q_A (gX D cI cJ cS ad adK adV) s.heap.size) out) args s 0 0 (q_A (gX D cI cJ cS ad adK adV) s.heap.size)) (F0 m 5 ls []) := by
  obtain ⟨hx, hb, hml, hown, hts⟩ := id C0
  intro n
  induction n with
  | zero =>
    intro v2 v4 σ H locs ls  hw hl h
    cases (show (none : Option (Int64 × q_M)) = some out from h)
  | succ n hrec5 =>
    intro v2 v4 σ H locs ls  hw hl h
    replace h : fX1_freeByOneOf_c5b p1 (fX1_freeByOneOf_c5 p1 n) v2 v4 σ = some out := h
    unfold fX1_freeByOneOf_c5b at h
    refine lv_iload hx hb dX1_freeByOneOf_5 (lv_at hl 3 rfl) ?_
    refine lv_bipush (v := (6 : Int32)) hx hb dX1_freeByOneOf_7 (by decide) ?_
    refine lv_icmp_ge (tgt := 37) hx hb dX1_freeByOneOf_9 (by decide) (fun c1 => ?_) (fun c1 => ?_)
    · replace h := q_t h c1
      refine lv_lload_n hx hb dX1_freeByOneOf_37 rfl (lv_at hl 2 rfl) ?_
      exact q_lret h C0 hr hlk hw dX1_freeByOneOf_38
    · replace h := q_f h c1
      refine lv_iload_n hx hb dX1_freeByOneOf_12 rfl (lv_at hl 1 rfl) ?_
      refine lv_iload hx hb dX1_freeByOneOf_13 (lv_at hl 3 rfl) ?_
      refine q_ishr (v := (q_sr p1 v4)) C0 dX1_freeByOneOf_15 rfl ?_
      refine lv_iconst (v := (1 : Int32)) hx hb dX1_freeByOneOf_16 (by decide) ?_
      refine lv_iand hx hb dX1_freeByOneOf_17 ?_
      refine lv_if_eq (tgt := 31) hx hb dX1_freeByOneOf_18 (by decide) (fun c2 => ?_) (fun c2 => ?_)
      · replace h := q_t h c2
        refine lv_iinc (v := (v4 + (1 : Int32))) (lv' := [(4, .int (v4 + (1 : Int32))), (0, .ref (ad 25)), (1, .int p1), (2, .long v2)]) hx hb dX1_freeByOneOf_31 hl (k := 3) rfl rfl (by decide) rfl (fun ls hl => ?_)
        refine lv_goto (tgt := 5) hx hb dX1_freeByOneOf_34 (by decide) ?_
        exact hrec5 v2 (v4 + (1 : Int32)) σ _ _ _ hw (lv_sub hl [1, 2, 3, 0] rfl) h
      · replace h := q_f h c2
        refine lv_lload_n hx hb dX1_freeByOneOf_21 rfl (lv_at hl 2 rfl) ?_
        refine lv_aload_n hx hb dX1_freeByOneOf_22 rfl (lv_at hl 0 rfl) ?_
        refine gt_X1_1 C0 hw xF_25 iX1_freeByOneOf_X1 (by decide +kernel) dX1_freeByOneOf_23 ?_
        refine lv_iload hx hb dX1_freeByOneOf_26 (lv_at hl 3 rfl) ?_
        obtain ⟨b3, h⟩ := q_if h
        refine q_lald (t0 := 1) C0 hw (xN_12 xF_26) (xE_12 xF_26) rfl b3 dX1_freeByOneOf_28 ?_
        refine lv_lor hx hb dX1_freeByOneOf_29 ?_
        refine lv_topl (fun x4 e_x4 => ?_)
        replace h := q_let_at e_x4 h
        refine lv_lstore_n (lv' := [(2, .long x4), (0, .ref (ad 25)), (1, .int p1), (4, .int v4)]) hx hb dX1_freeByOneOf_30 rfl hl (by decide) rfl (fun ls hl => ?_)
        refine lv_iinc (v := (v4 + (1 : Int32))) (lv' := [(4, .int (v4 + (1 : Int32))), (2, .long x4), (0, .ref (ad 25)), (1, .int p1)]) hx hb dX1_freeByOneOf_31 hl (k := 3) rfl rfl (by decide) rfl (fun ls hl => ?_)
        refine lv_goto (tgt := 5) hx hb dX1_freeByOneOf_34 (by decide) ?_
        exact hrec5 x4 (v4 + (1 : Int32)) σ _ _ _ hw (lv_sub hl [2, 3, 1, 0] rfl) h
set_option maxHeartbeats 4000000 in
set_option maxRecDepth 100000 in
theorem kX1_freeByOneOf {p1 : Int32}  {σ : q_M} {out : Int64 × q_M} (h : fX1_freeByOneOf p1 σ = some out) : q_Ml l (gX D cI cJ cS ad adK adV) yX1_freeByOneOf wsX1_freeByOneOf { frames := 0, cells := 0, slots := 0, locals := 0 } [.ref (ad 25), .int p1] σ out := by
  refine q_Ml_of (cc := cX1_freeByOneOf) (maxL := 5) (ret := (some .long)) (by decide) rfl (Nat.le_of_ble_eq_true rfl) ?_
  intro p e s m below meth c ls C0 hr hlk hl hw
  obtain ⟨hx, hb, hml, hown, hts⟩ := id C0
  replace hl : lv_has ls 5 [(0, .ref (ad 25)), (1, .int p1)] := hl
  unfold fX1_freeByOneOf at h
  refine lv_lconst (v := (0 : Int64)) hx hb dX1_freeByOneOf_0 (by decide) ?_
  refine lv_lstore_n (lv' := [(2, .long (0 : Int64)), (0, .ref (ad 25)), (1, .int p1)]) hx hb dX1_freeByOneOf_1 rfl hl (by decide) rfl (fun ls hl => ?_)
  refine lv_iconst (v := (0 : Int32)) hx hb dX1_freeByOneOf_2 (by decide) ?_
  refine lv_istore (lv' := [(4, .int (0 : Int32)), (2, .long (0 : Int64)), (0, .ref (ad 25)), (1, .int p1)]) hx hb dX1_freeByOneOf_3 hl (by decide) rfl (fun ls hl => ?_)
  exact tX1_freeByOneOf_c5 C0 hr hlk q_FU (0 : Int64) (0 : Int32) σ _ _ _ hw (lv_sub hl [2, 3, 1, 0] rfl) h
-- X1_neverFree neverFree()J
theorem iX1_neverFree_X1 : ∀ w ∈ wsX10, w ∈ wsX1_neverFree := by decide +kernel
theorem eX1_freeByOneOf : yX1_freeByOneOf.cls = RX1 ∧ yX1_freeByOneOf.cls ≠ "java/lang/invoke/MethodHandle" ∧ yX1_freeByOneOf.cls ≠ "java/lang/invoke/VarHandle" ∧ (parseMethodDescriptor yX1_freeByOneOf.desc).map (fun d => d.parameters.length) = some 1 := by decide +kernel
set_option maxHeartbeats 4000000 in
set_option maxRecDepth 100000 in
theorem kX1_neverFree   {σ : q_M} {out : Int64 × q_M} (h : fX1_neverFree  σ = some out) : q_Ml l (gX D cI cJ cS ad adK adV) yX1_neverFree wsX1_neverFree { frames := 1, cells := 0, slots := 0, locals := 24 } [.ref (ad 25)] σ out := by
  refine q_Ml_of (cc := cX1_neverFree) (maxL := 1) (ret := (some .long)) (by decide) rfl (Nat.le_of_ble_eq_true rfl) ?_
  intro p e s m below meth c ls C0 hr hlk hl hw
  obtain ⟨hx, hb, hml, hown, hts⟩ := id C0
  replace hl : lv_has ls 1 [(0, .ref (ad 25))] := hl
  unfold fX1_neverFree at h
  refine lv_aload_n hx hb dX1_neverFree_0 rfl (lv_at hl 0 rfl) ?_
  refine gt_X1_0 C0 hw xF_25 iX1_neverFree_X1 (by decide +kernel) dX1_neverFree_1 ?_
  refine lv_aload_n hx hb dX1_neverFree_4 rfl (lv_at hl 0 rfl) ?_
  refine lv_bipush (v := (63 : Int32)) hx hb dX1_neverFree_5 (by decide) ?_
  obtain ⟨o1, hco1, h⟩ := q_bind h
  refine q_calll hw (va_runV (As := [.int (63 : Int32)]) (rest := [.long (σ.2 25 0)]) C0 (kX1_freeByOneOf hco1 _) (cwV 1 hts gX1_neverFree_X1_freeByOneOf rfl rfl rfl eX1_freeByOneOf ⟨(Nat.le_of_ble_eq_true rfl), (Nat.le_of_ble_eq_true rfl)⟩) ⟨q_blind, q_recv hw (xN_11 xF_25) (xE_11 xF_25) rfl, q_pre hw⟩ rfl rfl hl.1 rfl (lv_room (Nat.le_of_ble_eq_true rfl)) dX1_neverFree_7 ⟨Nat.zero_le _, Nat.zero_le _⟩) (fun H locs hw => ?_)
  refine lv_ldc2 (v := (-1 : Int64)) hx hb hown (hts (.constantLong RX1 27 (-1)) (by decide +kernel)) dX1_neverFree_10 ?_
  refine lv_lxor hx hb dX1_neverFree_13 ?_
  refine lv_land hx hb dX1_neverFree_14 ?_
  exact q_lret h C0 hr hlk hw dX1_neverFree_15
-- X1_suffices suffices(I)Z
theorem iX1_suffices_X1 : ∀ w ∈ wsX10, w ∈ wsX1_suffices := by decide +kernel
set_option maxHeartbeats 4000000 in
set_option maxRecDepth 100000 in
theorem kX1_suffices {p1 : Int32}  {σ : q_M} {out : Int32 × q_M} (h : fX1_suffices p1 σ = some out) : q_Mi l (gX D cI cJ cS ad adK adV) yX1_suffices wsX1_suffices { frames := 1, cells := 0, slots := 0, locals := 24 } [.ref (ad 25), .int p1] σ out := by
  refine q_Mi_of (cc := cX1_suffices) (maxL := 2) (ret := (some .boolean)) (by decide) rfl (Nat.le_of_ble_eq_true rfl) ?_
  intro p e s m below meth c ls C0 hr hlk hl hw
  obtain ⟨hx, hb, hml, hown, hts⟩ := id C0
  replace hl : lv_has ls 2 [(0, .ref (ad 25)), (1, .int p1)] := hl
  unfold fX1_suffices at h
  refine lv_aload_n hx hb dX1_suffices_0 rfl (lv_at hl 0 rfl) ?_
  refine lv_iload_n hx hb dX1_suffices_1 rfl (lv_at hl 1 rfl) ?_
  obtain ⟨o1, hco1, h⟩ := q_bind h
  refine q_calll hw (va_runV (As := [.int p1]) (rest := []) C0 (kX1_freeByOneOf hco1 _) (cwV 1 hts gX1_suffices_X1_freeByOneOf rfl rfl rfl eX1_freeByOneOf ⟨(Nat.le_of_ble_eq_true rfl), (Nat.le_of_ble_eq_true rfl)⟩) ⟨q_blind, q_recv hw (xN_11 xF_25) (xE_11 xF_25) rfl, q_pre hw⟩ rfl rfl hl.1 rfl (lv_room (Nat.le_of_ble_eq_true rfl)) dX1_suffices_2 ⟨Nat.zero_le _, Nat.zero_le _⟩) (fun H locs hw => ?_)
  refine lv_aload_n hx hb dX1_suffices_5 rfl (lv_at hl 0 rfl) ?_
  refine gt_X1_0 C0 hw xF_25 iX1_suffices_X1 (by decide +kernel) dX1_suffices_6 ?_
  refine q_lcmp_ne (tgt := 17) C0 dX1_suffices_9 dX1_suffices_10 (by decide) (fun c2 => ?_) (fun c2 => ?_)
  · replace h := q_f h c2
    refine lv_iconst (v := (0 : Int32)) hx hb dX1_suffices_17 (by decide) ?_
    exact q_zret h C0 hr rfl hlk hw dX1_suffices_18
  · replace h := q_t h c2
    refine lv_iconst (v := (1 : Int32)) hx hb dX1_suffices_13 (by decide) ?_
    refine lv_goto (tgt := 18) hx hb dX1_suffices_14 (by decide) ?_
    exact q_zret h C0 hr rfl hlk hw dX1_suffices_18
-- X1_planeDoes planeDoes(IJ)Z
theorem iX1_planeDoes_X1 : ∀ w ∈ wsX10, w ∈ wsX1_planeDoes := by decide +kernel
set_option maxHeartbeats 4000000 in
set_option maxRecDepth 100000 in
theorem kX1_planeDoes {p1 : Int32} {p2 : Int64}  {σ : q_M} {out : Int32 × q_M} (h : fX1_planeDoes p1 p2 σ = some out) : q_Mi l (gX D cI cJ cS ad adK adV) yX1_planeDoes wsX1_planeDoes { frames := 0, cells := 0, slots := 0, locals := 0 } [.ref (ad 25), .int p1, .long p2] σ out := by
  refine q_Mi_of (cc := cX1_planeDoes) (maxL := 6) (ret := (some .boolean)) (by decide) rfl (Nat.le_of_ble_eq_true rfl) ?_
  intro p e s m below meth c ls C0 hr hlk hl hw
  obtain ⟨hx, hb, hml, hown, hts⟩ := id C0
  replace hl : lv_has ls 6 [(0, .ref (ad 25)), (1, .int p1), (2, .long p2)] := hl
  unfold fX1_planeDoes at h
  refine lv_lload_n hx hb dX1_planeDoes_0 rfl (lv_at hl 2 rfl) ?_
  refine lv_aload_n hx hb dX1_planeDoes_1 rfl (lv_at hl 0 rfl) ?_
  refine gt_X1_1 C0 hw xF_25 iX1_planeDoes_X1 (by decide +kernel) dX1_planeDoes_2 ?_
  refine lv_iconst (v := (2 : Int32)) hx hb dX1_planeDoes_5 (by decide) ?_
  refine lv_iload_n hx hb dX1_planeDoes_6 rfl (lv_at hl 1 rfl) ?_
  refine lv_imul hx hb dX1_planeDoes_7 ?_
  refine lv_iconst (v := (1 : Int32)) hx hb dX1_planeDoes_8 (by decide) ?_
  refine lv_iadd hx hb dX1_planeDoes_9 ?_
  obtain ⟨b1, h⟩ := q_if h
  refine q_lald (t0 := 1) C0 hw (xN_12 xF_26) (xE_12 xF_26) rfl b1 dX1_planeDoes_10 ?_
  refine lv_ldc2 (v := (-1 : Int64)) hx hb hown (hts (.constantLong RX1 27 (-1)) (by decide +kernel)) dX1_planeDoes_11 ?_
  refine lv_lxor hx hb dX1_planeDoes_14 ?_
  refine lv_land hx hb dX1_planeDoes_15 ?_
  refine lv_lload_n hx hb dX1_planeDoes_16 rfl (lv_at hl 2 rfl) ?_
  refine lv_ldc2 (v := (-1 : Int64)) hx hb hown (hts (.constantLong RX1 27 (-1)) (by decide +kernel)) dX1_planeDoes_17 ?_
  refine lv_lxor hx hb dX1_planeDoes_20 ?_
  refine lv_aload_n hx hb dX1_planeDoes_21 rfl (lv_at hl 0 rfl) ?_
  refine gt_X1_1 C0 hw xF_25 iX1_planeDoes_X1 (by decide +kernel) dX1_planeDoes_22 ?_
  refine lv_iconst (v := (2 : Int32)) hx hb dX1_planeDoes_25 (by decide) ?_
  refine lv_iload_n hx hb dX1_planeDoes_26 rfl (lv_at hl 1 rfl) ?_
  refine lv_imul hx hb dX1_planeDoes_27 ?_
  obtain ⟨b2, h⟩ := q_if h
  refine q_lald (t0 := 1) C0 hw (xN_12 xF_26) (xE_12 xF_26) rfl b2 dX1_planeDoes_28 ?_
  refine lv_ldc2 (v := (-1 : Int64)) hx hb hown (hts (.constantLong RX1 27 (-1)) (by decide +kernel)) dX1_planeDoes_29 ?_
  refine lv_lxor hx hb dX1_planeDoes_32 ?_
  refine lv_land hx hb dX1_planeDoes_33 ?_
  refine lv_lor hx hb dX1_planeDoes_34 ?_
  refine lv_topl (fun x3 e_x3 => ?_)
  replace h := q_let_at e_x3 h
  refine lv_lstore (lv' := [(4, .long x3), (0, .ref (ad 25)), (1, .int p1), (2, .long p2)]) hx hb dX1_planeDoes_35 hl (by decide) rfl (fun ls hl => ?_)
  refine lv_aload_n hx hb dX1_planeDoes_37 rfl (lv_at hl 1 rfl) ?_
  refine gt_X1_0 C0 hw xF_25 iX1_planeDoes_X1 (by decide +kernel) dX1_planeDoes_38 ?_
  refine lv_lload hx hb dX1_planeDoes_41 (lv_at hl 0 rfl) ?_
  refine lv_land hx hb dX1_planeDoes_43 ?_
  refine lv_lconst (v := (0 : Int64)) hx hb dX1_planeDoes_44 (by decide) ?_
  refine q_lcmp_ne (tgt := 53) C0 dX1_planeDoes_45 dX1_planeDoes_46 (by decide) (fun c4 => ?_) (fun c4 => ?_)
  · replace h := q_f h c4
    refine lv_iconst (v := (0 : Int32)) hx hb dX1_planeDoes_53 (by decide) ?_
    exact q_zret h C0 hr rfl hlk hw dX1_planeDoes_54
  · replace h := q_t h c4
    refine lv_iconst (v := (1 : Int32)) hx hb dX1_planeDoes_49 (by decide) ?_
    refine lv_goto (tgt := 54) hx hb dX1_planeDoes_50 (by decide) ?_
    exact q_zret h C0 hr rfl hlk hw dX1_planeDoes_54
-- X1_fewestWays fewestWays()I
theorem eJ6_bitCount_0f7a4 : yJ6_bitCount_0f7a4.cls ≠ "java/lang/invoke/MethodHandle" ∧ yJ6_bitCount_0f7a4.cls ≠ "java/lang/invoke/VarHandle" ∧ (parseMethodDescriptor yJ6_bitCount_0f7a4.desc).map (fun d => d.parameters.length) = some 1 := by decide +kernel
theorem eX1_suffices : yX1_suffices.cls = RX1 ∧ yX1_suffices.cls ≠ "java/lang/invoke/MethodHandle" ∧ yX1_suffices.cls ≠ "java/lang/invoke/VarHandle" ∧ (parseMethodDescriptor yX1_suffices.desc).map (fun d => d.parameters.length) = some 1 := by decide +kernel
set_option maxHeartbeats 4000000 in
set_option maxRecDepth 100000 in
theorem tX1_fewestWays_c7   (C0 : CallFix p m c cX1_fewestWays 5 s args wsX1_fewestWays RX1) (hr : meth.sig.returnType = (some .int)) (hlk : meth.locks = false) {out : Int32 × q_M}  : ∀ n : Nat, ∀ (v1 : Int32) (v2 : Int32) (v3 : Int32) (σ : q_M) (H : Heap) (locs : List Loc) (ls : Array Slot), q_H (gX D cI cJ cS ad adK adV) (q_A (gX D cI cJ cS ad adK adV) s.heap.size) s σ H locs → lv_has ls 5 [(0, .ref (ad 25)), (1, .int v1), (2, .int v2), (3, .int v3)] → fX1_fewestWays_c7  n v1 v2 v3 σ = some out → W p l e { frames := 2, cells := 0, slots := 0, locals := 45 } s m args below meth c H locs 0 0 (MQ below (q_Ri (gX D cI cJ cS ad adK adV) (q_A (gX D cI cJ cS ad adK adV) s.heap.size) out) args s 0 0 (q_A (gX D cI cJ cS ad adK adV) s.heap.size)) (F0 m 7 ls []) := by
  obtain ⟨hx, hb, hml, hown, hts⟩ := id C0
  intro n
  induction n with
  | zero =>
    intro v1 v2 v3 σ H locs ls  hw hl h
    cases (show (none : Option (Int32 × q_M)) = some out from h)
  | succ n hrec7 =>
    intro v1 v2 v3 σ H locs ls  hw hl h
    replace h : fX1_fewestWays_c7b  (fX1_fewestWays_c7  n) v1 v2 v3 σ = some out := h
    unfold fX1_fewestWays_c7b at h
    refine lv_iload_n hx hb dX1_fewestWays_7 rfl (lv_at hl 3 rfl) ?_
    refine lv_bipush (v := (64 : Int32)) hx hb dX1_fewestWays_8 (by decide) ?_
    refine lv_icmp_ge (tgt := 44) hx hb dX1_fewestWays_10 (by decide) (fun c1 => ?_) (fun c1 => ?_)
    · replace h := q_t h c1
      refine lv_iload_n hx hb dX1_fewestWays_44 rfl (lv_at hl 1 rfl) ?_
      exact q_iret h C0 hr hlk hw dX1_fewestWays_45
    · replace h := q_f h c1
      refine lv_iload_n hx hb dX1_fewestWays_13 rfl (lv_at hl 3 rfl) ?_
      obtain ⟨o2, hco2, h⟩ := q_bind h
      refine q_calli hw (va_runS (As := [.int v3]) (rest := []) C0 (kJ6_bitCount_0f7a4 hco2 _) (va_cwS 1 hts gX1_fewestWays_J6_bitCount_0f7a4 rfl rfl rfl eJ6_bitCount_0f7a4 ⟨(Nat.le_of_ble_eq_true rfl), (Nat.le_of_ble_eq_true rfl)⟩) ⟨q_blind, q_pre hw⟩ rfl rfl hl.1 rfl (lv_room (Nat.le_of_ble_eq_true rfl)) dX1_fewestWays_14 ⟨Nat.zero_le _, Nat.zero_le _⟩) (fun H locs hw => ?_)
      refine lv_istore (lv' := [(4, .int o2.1), (0, .ref (ad 25)), (1, .int v1), (2, .int v2), (3, .int v3)]) hx hb dX1_fewestWays_17 hl (by decide) rfl (fun ls hl => ?_)
      refine lv_iload hx hb dX1_fewestWays_19 (lv_at hl 0 rfl) ?_
      refine lv_iload_n hx hb dX1_fewestWays_21 rfl (lv_at hl 3 rfl) ?_
      refine lv_icmp_ge (tgt := 38) hx hb dX1_fewestWays_22 (by decide) (fun c3 => ?_) (fun c3 => ?_)
      · replace h := q_t h c3
        refine lv_iinc (v := (v3 + (1 : Int32))) (lv' := [(3, .int (v3 + (1 : Int32))), (4, .int o2.1), (0, .ref (ad 25)), (1, .int v1), (2, .int v2)]) hx hb dX1_fewestWays_38 hl (k := 4) rfl rfl (by decide) rfl (fun ls hl => ?_)
        refine lv_goto (tgt := 7) hx hb dX1_fewestWays_41 (by decide) ?_
        exact hrec7 v1 v2 (v3 + (1 : Int32)) o2.2 _ _ _ hw (lv_sub hl [2, 3, 4, 0] rfl) h
      · replace h := q_f h c3
        refine lv_aload_n hx hb dX1_fewestWays_25 rfl (lv_at hl 1 rfl) ?_
        refine lv_iload_n hx hb dX1_fewestWays_26 rfl (lv_at hl 4 rfl) ?_
        obtain ⟨o4, hco4, h⟩ := q_bind h
        refine q_calli hw (va_runV (As := [.int v3]) (rest := []) C0 (kX1_suffices hco4 _) (cwV 1 hts gX1_fewestWays_X1_suffices rfl rfl rfl eX1_suffices ⟨(Nat.le_of_ble_eq_true rfl), (Nat.le_of_ble_eq_true rfl)⟩) ⟨q_blind, q_recv hw (xN_11 xF_25) (xE_11 xF_25) rfl, q_pre hw⟩ rfl rfl hl.1 rfl (lv_room (Nat.le_of_ble_eq_true rfl)) dX1_fewestWays_27 ⟨Nat.zero_le _, Nat.zero_le _⟩) (fun H locs hw => ?_)
        refine lv_if_eq (tgt := 38) hx hb dX1_fewestWays_30 (by decide) (fun c5 => ?_) (fun c5 => ?_)
        · replace h := q_t h c5
          refine lv_iinc (v := (v3 + (1 : Int32))) (lv' := [(3, .int (v3 + (1 : Int32))), (4, .int o2.1), (0, .ref (ad 25)), (1, .int v1), (2, .int v2)]) hx hb dX1_fewestWays_38 hl (k := 4) rfl rfl (by decide) rfl (fun ls hl => ?_)
          refine lv_goto (tgt := 7) hx hb dX1_fewestWays_41 (by decide) ?_
          exact hrec7 v1 v2 (v3 + (1 : Int32)) o4.2 _ _ _ hw (lv_sub hl [2, 3, 4, 0] rfl) h
        · replace h := q_f h c5
          refine lv_iload hx hb dX1_fewestWays_33 (lv_at hl 0 rfl) ?_
          refine lv_istore_n (lv' := [(2, .int o2.1), (4, .int o2.1), (0, .ref (ad 25)), (1, .int v1), (3, .int v3)]) hx hb dX1_fewestWays_35 rfl hl (by decide) rfl (fun ls hl => ?_)
          refine lv_iload_n hx hb dX1_fewestWays_36 rfl (lv_at hl 4 rfl) ?_
          refine lv_istore_n (lv' := [(1, .int v3), (2, .int o2.1), (4, .int o2.1), (0, .ref (ad 25)), (3, .int v3)]) hx hb dX1_fewestWays_37 rfl hl (by decide) rfl (fun ls hl => ?_)
          refine lv_iinc (v := (v3 + (1 : Int32))) (lv' := [(3, .int (v3 + (1 : Int32))), (1, .int v3), (2, .int o2.1), (4, .int o2.1), (0, .ref (ad 25))]) hx hb dX1_fewestWays_38 hl (k := 4) rfl rfl (by decide) rfl (fun ls hl => ?_)
          refine lv_goto (tgt := 7) hx hb dX1_fewestWays_41 (by decide) ?_
          exact hrec7 v3 o2.1 (v3 + (1 : Int32)) o4.2 _ _ _ hw (lv_sub hl [4, 1, 2, 0] rfl) h
set_option maxHeartbeats 4000000 in
set_option maxRecDepth 100000 in
theorem kX1_fewestWays   {σ : q_M} {out : Int32 × q_M} (h : fX1_fewestWays  σ = some out) : q_Mi l (gX D cI cJ cS ad adK adV) yX1_fewestWays wsX1_fewestWays { frames := 2, cells := 0, slots := 0, locals := 45 } [.ref (ad 25)] σ out := by
  refine q_Mi_of (cc := cX1_fewestWays) (maxL := 5) (ret := (some .int)) (by decide) rfl (Nat.le_of_ble_eq_true rfl) ?_
  intro p e s m below meth c ls C0 hr hlk hl hw
  obtain ⟨hx, hb, hml, hown, hts⟩ := id C0
  replace hl : lv_has ls 5 [(0, .ref (ad 25))] := hl
  unfold fX1_fewestWays at h
  refine lv_iconst (v := (-1 : Int32)) hx hb dX1_fewestWays_0 (by decide) ?_
  refine lv_istore_n (lv' := [(1, .int (-1 : Int32)), (0, .ref (ad 25))]) hx hb dX1_fewestWays_1 rfl hl (by decide) rfl (fun ls hl => ?_)
  refine lv_bipush (v := (7 : Int32)) hx hb dX1_fewestWays_2 (by decide) ?_
  refine lv_istore_n (lv' := [(2, .int (7 : Int32)), (1, .int (-1 : Int32)), (0, .ref (ad 25))]) hx hb dX1_fewestWays_4 rfl hl (by decide) rfl (fun ls hl => ?_)
  refine lv_iconst (v := (0 : Int32)) hx hb dX1_fewestWays_5 (by decide) ?_
  refine lv_istore_n (lv' := [(3, .int (0 : Int32)), (2, .int (7 : Int32)), (1, .int (-1 : Int32)), (0, .ref (ad 25))]) hx hb dX1_fewestWays_6 rfl hl (by decide) rfl (fun ls hl => ?_)
  exact tX1_fewestWays_c7 C0 hr hlk q_FU (-1 : Int32) (7 : Int32) (0 : Int32) σ _ _ _ hw (lv_sub hl [3, 2, 1, 0] rfl) h
-- X1_seam seam(LMouldThatComesOff$Mould;)I
theorem iX1_seam_X1 : ∀ w ∈ wsX10, w ∈ wsX1_seam := by decide +kernel
theorem iX1_seam_X2 : ∀ w ∈ wsX20, w ∈ wsX1_seam := by decide +kernel
set_option maxHeartbeats 4000000 in
set_option maxRecDepth 100000 in
theorem tX1_seam_c39 {k1 : Nat} {rec10 : Nat → Int32 → Int32 → q_M → Option (Int32 × q_M)} (hk1 : xK k1 = 1) (C0 : CallFix p m c cX1_seam 8 s args wsX1_seam RX1) (hr : meth.sig.returnType = (some .int)) (hlk : meth.locks = false) {out : Int32 × q_M} (hrec10 : ∀ (j2 : Nat) (v3 : Int32) (v4 : Int32) (σ : q_M) (H : Heap) (locs : List Loc) (ls : Array Slot), xK j2 = 2 → q_H (gX D cI cJ cS ad adK adV) (q_A (gX D cI cJ cS ad adK adV) s.heap.size) s σ H locs → lv_has ls 8 [(0, .ref (ad 25)), (1, .ref (ad k1)), (2, .ref (ad j2)), (3, .int v3), (4, .int v4)] → rec10 j2 v3 v4 σ = some out → W p l e { frames := 2, cells := 0, slots := 0, locals := 45 } s m args below meth c H locs 0 0 (MQ below (q_Ri (gX D cI cJ cS ad adK adV) (q_A (gX D cI cJ cS ad adK adV) s.heap.size) out) args s 0 0 (q_A (gX D cI cJ cS ad adK adV) s.heap.size)) (F0 m 10 ls [])) : ∀ n : Nat, ∀ (j2 : Nat) (v3 : Int32) (v4 : Int32) (v5 : Int64) (v7 : Int32) (σ : q_M) (H : Heap) (locs : List Loc) (ls : Array Slot), xK j2 = 2 → q_H (gX D cI cJ cS ad adK adV) (q_A (gX D cI cJ cS ad adK adV) s.heap.size) s σ H locs → lv_has ls 8 [(0, .ref (ad 25)), (1, .ref (ad k1)), (2, .ref (ad j2)), (3, .int v3), (4, .int v4), (5, .long v5), (7, .int v7)] → fX1_seam_c39 k1 rec10 n j2 v3 v4 v5 v7 σ = some out → W p l e { frames := 2, cells := 0, slots := 0, locals := 45 } s m args below meth c H locs 0 0 (MQ below (q_Ri (gX D cI cJ cS ad adK adV) (q_A (gX D cI cJ cS ad adK adV) s.heap.size) out) args s 0 0 (q_A (gX D cI cJ cS ad adK adV) s.heap.size)) (F0 m 39 ls []) := by
  obtain ⟨hx, hb, hml, hown, hts⟩ := id C0
  intro n
  induction n with
  | zero =>
    intro j2 v3 v4 v5 v7 σ H locs ls hj2 hw hl h
    cases (show (none : Option (Int32 × q_M)) = some out from h)
  | succ n hrec39 =>
    intro j2 v3 v4 v5 v7 σ H locs ls hj2 hw hl h
    replace h : fX1_seam_c39b k1 rec10 (fX1_seam_c39 k1 rec10 n) j2 v3 v4 v5 v7 σ = some out := h
    unfold fX1_seam_c39b at h
    refine lv_iload hx hb dX1_seam_39 (lv_at hl 6 rfl) ?_
    refine lv_bipush (v := (6 : Int32)) hx hb dX1_seam_41 (by decide) ?_
    refine lv_icmp_ge (tgt := 84) hx hb dX1_seam_43 (by decide) (fun c1 => ?_) (fun c1 => ?_)
    · replace h := q_t h c1
      refine lv_iload_n hx hb dX1_seam_84 rfl (lv_at hl 3 rfl) ?_
      refine lv_aload_n hx hb dX1_seam_85 rfl (lv_at hl 1 rfl) ?_
      refine lv_lload hx hb dX1_seam_86 (lv_at hl 5 rfl) ?_
      obtain ⟨o2, hco2, h⟩ := q_bind h
      refine q_calli hw (va_runV (As := [.long v5]) (rest := [.int v3]) C0 (kX2_sumOfShows hk1 hco2 _) (cwV 1 hts gX1_seam_X2_sumOfShows rfl rfl rfl eX2_sumOfShows ⟨(Nat.le_of_ble_eq_true rfl), (Nat.le_of_ble_eq_true rfl)⟩) ⟨q_blind, q_recv hw (xN_1 hk1) (xE_1 hk1) rfl, q_pre hw⟩ rfl rfl hl.1 rfl (lv_room (Nat.le_of_ble_eq_true rfl)) dX1_seam_88 ⟨Nat.zero_le _, Nat.zero_le _⟩) (fun H locs hw => ?_)
      refine lv_aload_n hx hb dX1_seam_91 rfl (lv_at hl 1 rfl) ?_
      refine lv_aload_n hx hb dX1_seam_92 rfl (lv_at hl 2 rfl) ?_
      refine lv_lload hx hb dX1_seam_93 (lv_at hl 5 rfl) ?_
      refine lv_iload hx hb dX1_seam_95 (lv_at hl 4 rfl) ?_
      obtain ⟨o3, hco3, h⟩ := q_bind h
      refine q_calll hw (va_runV (As := [.long v5, .int v4]) (rest := [.ref (ad k1), .int o2.1, .int v3]) C0 (kX0_shifted hj2 hco3 _) (cwV 2 hts gX1_seam_X0_shifted rfl rfl rfl eX0_shifted ⟨(Nat.le_of_ble_eq_true rfl), (Nat.le_of_ble_eq_true rfl)⟩) ⟨q_blind, q_recv hw (xN_2 hj2) (xE_2 hj2) rfl, q_pre hw⟩ rfl rfl hl.1 rfl (lv_room (Nat.le_of_ble_eq_true rfl)) dX1_seam_97 ⟨Nat.zero_le _, Nat.zero_le _⟩) (fun H locs hw => ?_)
      obtain ⟨o4, hco4, h⟩ := q_bind h
      refine q_calli hw (va_runV (As := [.long o3.1]) (rest := [.int o2.1, .int v3]) C0 (kX2_sumOfShows hk1 hco4 _) (cwV 1 hts gX1_seam_X2_sumOfShows rfl rfl rfl eX2_sumOfShows ⟨(Nat.le_of_ble_eq_true rfl), (Nat.le_of_ble_eq_true rfl)⟩) ⟨q_blind, q_recv hw (xN_1 hk1) (xE_1 hk1) rfl, q_pre hw⟩ rfl rfl hl.1 rfl (lv_room (Nat.le_of_ble_eq_true rfl)) dX1_seam_100 ⟨Nat.zero_le _, Nat.zero_le _⟩) (fun H locs hw => ?_)
      refine lv_iadd hx hb dX1_seam_103 ?_
      refine lv_iadd hx hb dX1_seam_104 ?_
      refine lv_istore_n (lv' := [(3, .int (v3 + (o2.1 + o4.1))), (0, .ref (ad 25)), (1, .ref (ad k1)), (2, .ref (ad j2)), (4, .int v4), (5, .long v5), (7, .int v7)]) hx hb dX1_seam_105 rfl hl (by decide) rfl (fun ls hl => ?_)
      refine lv_iinc (v := (v4 + (2 : Int32))) (lv' := [(4, .int (v4 + (2 : Int32))), (3, .int (v3 + (o2.1 + o4.1))), (0, .ref (ad 25)), (1, .ref (ad k1)), (2, .ref (ad j2)), (5, .long v5), (7, .int v7)]) hx hb dX1_seam_106 hl (k := 4) rfl rfl (by decide) rfl (fun ls hl => ?_)
      refine lv_goto (tgt := 10) hx hb dX1_seam_109 (by decide) ?_
      exact hrec10 j2 (v3 + (o2.1 + o4.1)) (v4 + (2 : Int32)) o4.2 _ _ _ hj2 hw (lv_sub hl [2, 3, 4, 1, 0] rfl) h
    · replace h := q_f h c1
      refine lv_lload hx hb dX1_seam_46 (lv_at hl 5 rfl) ?_
      refine lv_aload_n hx hb dX1_seam_48 rfl (lv_at hl 0 rfl) ?_
      refine gt_X1_2 C0 hw xF_25 iX1_seam_X1 (by decide +kernel) dX1_seam_49 ?_
      refine lv_iload hx hb dX1_seam_52 (lv_at hl 6 rfl) ?_
      obtain ⟨b5, h⟩ := q_if h
      refine q_lald (t0 := 1) C0 hw (xN_12 xF_27) (xE_12 xF_27) rfl b5 dX1_seam_54 ?_
      refine lv_aload_n hx hb dX1_seam_55 rfl (lv_at hl 2 rfl) ?_
      refine lv_aload_n hx hb dX1_seam_56 rfl (lv_at hl 0 rfl) ?_
      refine gt_X1_2 C0 hw xF_25 iX1_seam_X1 (by decide +kernel) dX1_seam_57 ?_
      refine lv_iload hx hb dX1_seam_60 (lv_at hl 6 rfl) ?_
      obtain ⟨b6, h⟩ := q_if h
      refine q_lald (t0 := 1) C0 hw (xN_12 xF_27) (xE_12 xF_27) rfl b6 dX1_seam_62 ?_
      refine lv_iload hx hb dX1_seam_63 (lv_at hl 4 rfl) ?_
      refine lv_iconst (v := (1 : Int32)) hx hb dX1_seam_65 (by decide) ?_
      refine lv_iadd hx hb dX1_seam_66 ?_
      obtain ⟨o7, hco7, h⟩ := q_bind h
      refine q_calll hw (va_runV (As := [.long (σ.2 27 v7.toNatClampNeg), .int (v4 + (1 : Int32))]) (rest := [.long (σ.2 27 v7.toNatClampNeg), .long v5]) C0 (kX0_shifted hj2 hco7 _) (cwV 2 hts gX1_seam_X0_shifted rfl rfl rfl eX0_shifted ⟨(Nat.le_of_ble_eq_true rfl), (Nat.le_of_ble_eq_true rfl)⟩) ⟨q_blind, q_recv hw (xN_2 hj2) (xE_2 hj2) rfl, q_pre hw⟩ rfl rfl hl.1 rfl (lv_room (Nat.le_of_ble_eq_true rfl)) dX1_seam_67 ⟨Nat.zero_le _, Nat.zero_le _⟩) (fun H locs hw => ?_)
      refine lv_land hx hb dX1_seam_70 ?_
      refine lv_ldc2 (v := (-1 : Int64)) hx hb hown (hts (.constantLong RX1 27 (-1)) (by decide +kernel)) dX1_seam_71 ?_
      refine lv_lxor hx hb dX1_seam_74 ?_
      refine lv_land hx hb dX1_seam_75 ?_
      refine lv_topl (fun x8 e_x8 => ?_)
      replace h := q_let_at e_x8 h
      refine lv_lstore (lv' := [(5, .long x8), (0, .ref (ad 25)), (1, .ref (ad k1)), (2, .ref (ad j2)), (3, .int v3), (4, .int v4), (7, .int v7)]) hx hb dX1_seam_76 hl (by decide) rfl (fun ls hl => ?_)
      refine lv_iinc (v := (v7 + (1 : Int32))) (lv' := [(7, .int (v7 + (1 : Int32))), (5, .long x8), (0, .ref (ad 25)), (1, .ref (ad k1)), (2, .ref (ad j2)), (3, .int v3), (4, .int v4)]) hx hb dX1_seam_78 hl (k := 6) rfl rfl (by decide) rfl (fun ls hl => ?_)
      refine lv_goto (tgt := 39) hx hb dX1_seam_81 (by decide) ?_
      exact hrec39 j2 v3 v4 x8 (v7 + (1 : Int32)) o7.2 _ _ _ hj2 hw (lv_sub hl [2, 3, 4, 5, 6, 1, 0] rfl) h
set_option maxHeartbeats 4000000 in
set_option maxRecDepth 100000 in
theorem tX1_seam_c10 {k1 : Nat} (hk1 : xK k1 = 1) (C0 : CallFix p m c cX1_seam 8 s args wsX1_seam RX1) (hr : meth.sig.returnType = (some .int)) (hlk : meth.locks = false) {out : Int32 × q_M}  : ∀ n : Nat, ∀ (j2 : Nat) (v3 : Int32) (v4 : Int32) (σ : q_M) (H : Heap) (locs : List Loc) (ls : Array Slot), xK j2 = 2 → q_H (gX D cI cJ cS ad adK adV) (q_A (gX D cI cJ cS ad adK adV) s.heap.size) s σ H locs → lv_has ls 8 [(0, .ref (ad 25)), (1, .ref (ad k1)), (2, .ref (ad j2)), (3, .int v3), (4, .int v4)] → fX1_seam_c10 k1 n j2 v3 v4 σ = some out → W p l e { frames := 2, cells := 0, slots := 0, locals := 45 } s m args below meth c H locs 0 0 (MQ below (q_Ri (gX D cI cJ cS ad adK adV) (q_A (gX D cI cJ cS ad adK adV) s.heap.size) out) args s 0 0 (q_A (gX D cI cJ cS ad adK adV) s.heap.size)) (F0 m 10 ls []) := by
  obtain ⟨hx, hb, hml, hown, hts⟩ := id C0
  intro n
  induction n with
  | zero =>
    intro j2 v3 v4 σ H locs ls hj2 hw hl h
    cases (show (none : Option (Int32 × q_M)) = some out from h)
  | succ n hrec10 =>
    intro j2 v3 v4 σ H locs ls hj2 hw hl h
    replace h : fX1_seam_c10b k1 (fX1_seam_c10 k1 n) j2 v3 v4 σ = some out := h
    unfold fX1_seam_c10b at h
    refine lv_iload hx hb dX1_seam_10 (lv_at hl 4 rfl) ?_
    refine lv_bipush (v := (6 : Int32)) hx hb dX1_seam_12 (by decide) ?_
    refine lv_icmp_ge (tgt := 112) hx hb dX1_seam_14 (by decide) (fun c1 => ?_) (fun c1 => ?_)
    · replace h := q_t h c1
      refine lv_iload_n hx hb dX1_seam_112 rfl (lv_at hl 3 rfl) ?_
      exact q_iret h C0 hr hlk hw dX1_seam_113
    · replace h := q_f h c1
      refine lv_aload_n hx hb dX1_seam_17 rfl (lv_at hl 0 rfl) ?_
      refine gt_X1_0 C0 hw xF_25 iX1_seam_X1 (by decide +kernel) dX1_seam_18 ?_
      refine lv_aload_n hx hb dX1_seam_21 rfl (lv_at hl 2 rfl) ?_
      refine lv_aload_n hx hb dX1_seam_22 rfl (lv_at hl 0 rfl) ?_
      refine gt_X1_0 C0 hw xF_25 iX1_seam_X1 (by decide +kernel) dX1_seam_23 ?_
      refine lv_iload hx hb dX1_seam_26 (lv_at hl 4 rfl) ?_
      refine lv_iconst (v := (1 : Int32)) hx hb dX1_seam_28 (by decide) ?_
      refine lv_iadd hx hb dX1_seam_29 ?_
      obtain ⟨o2, hco2, h⟩ := q_bind h
      refine q_calll hw (va_runV (As := [.long (σ.2 25 0), .int (v4 + (1 : Int32))]) (rest := [.long (σ.2 25 0)]) C0 (kX0_shifted hj2 hco2 _) (cwV 2 hts gX1_seam_X0_shifted rfl rfl rfl eX0_shifted ⟨(Nat.le_of_ble_eq_true rfl), (Nat.le_of_ble_eq_true rfl)⟩) ⟨q_blind, q_recv hw (xN_2 hj2) (xE_2 hj2) rfl, q_pre hw⟩ rfl rfl hl.1 rfl (lv_room (Nat.le_of_ble_eq_true rfl)) dX1_seam_30 ⟨Nat.zero_le _, Nat.zero_le _⟩) (fun H locs hw => ?_)
      refine lv_land hx hb dX1_seam_33 ?_
      refine lv_lstore (lv' := [(5, .long ((σ.2 25 0) &&& o2.1)), (0, .ref (ad 25)), (1, .ref (ad k1)), (2, .ref (ad j2)), (3, .int v3), (4, .int v4)]) hx hb dX1_seam_34 hl (by decide) rfl (fun ls hl => ?_)
      refine lv_iconst (v := (0 : Int32)) hx hb dX1_seam_36 (by decide) ?_
      refine lv_istore (lv' := [(7, .int (0 : Int32)), (5, .long ((σ.2 25 0) &&& o2.1)), (0, .ref (ad 25)), (1, .ref (ad k1)), (2, .ref (ad j2)), (3, .int v3), (4, .int v4)]) hx hb dX1_seam_37 hl (by decide) rfl (fun ls hl => ?_)
      exact tX1_seam_c39 hk1 C0 hr hlk hrec10 q_FU j2 v3 v4 ((σ.2 25 0) &&& o2.1) (0 : Int32) o2.2 _ _ _ hj2 hw (lv_sub hl [2, 3, 4, 5, 6, 1, 0] rfl) h
set_option maxHeartbeats 4000000 in
set_option maxRecDepth 100000 in
theorem kX1_seam {k1 : Nat} (hk1 : xK k1 = 1) {σ : q_M} {out : Int32 × q_M} (h : fX1_seam k1 σ = some out) : q_Mi l (gX D cI cJ cS ad adK adV) yX1_seam wsX1_seam { frames := 2, cells := 0, slots := 0, locals := 45 } [.ref (ad 25), .ref (ad k1)] σ out := by
  refine q_Mi_of (cc := cX1_seam) (maxL := 8) (ret := (some .int)) (by decide) rfl (Nat.le_of_ble_eq_true rfl) ?_
  intro p e s m below meth c ls C0 hr hlk hl hw
  obtain ⟨hx, hb, hml, hown, hts⟩ := id C0
  replace hl : lv_has ls 8 [(0, .ref (ad 25)), (1, .ref (ad k1))] := hl
  unfold fX1_seam at h
  refine lv_aload_n hx hb dX1_seam_0 rfl (lv_at hl 1 rfl) ?_
  refine gt_X2_0 C0 hw hk1 iX1_seam_X2 (by decide +kernel) dX1_seam_1 ?_
  refine lv_astore_n (lv' := [(2, .ref (ad (k1 + 1))), (0, .ref (ad 25)), (1, .ref (ad k1))]) hx hb dX1_seam_4 rfl hl (by decide) rfl (fun ls hl => ?_)
  refine lv_iconst (v := (0 : Int32)) hx hb dX1_seam_5 (by decide) ?_
  refine lv_istore_n (lv' := [(3, .int (0 : Int32)), (2, .ref (ad (k1 + 1))), (0, .ref (ad 25)), (1, .ref (ad k1))]) hx hb dX1_seam_6 rfl hl (by decide) rfl (fun ls hl => ?_)
  refine lv_iconst (v := (0 : Int32)) hx hb dX1_seam_7 (by decide) ?_
  refine lv_istore (lv' := [(4, .int (0 : Int32)), (3, .int (0 : Int32)), (2, .ref (ad (k1 + 1))), (0, .ref (ad 25)), (1, .ref (ad k1))]) hx hb dX1_seam_8 hl (by decide) rfl (fun ls hl => ?_)
  exact tX1_seam_c10 hk1 C0 hr hlk q_FU (k1 + 1) (0 : Int32) (0 : Int32) σ _ _ _ (xD_1_1 hk1) hw (lv_sub hl [3, 4, 2, 1, 0] rfl) h
-- X1_share share(I)V
theorem iX1_share_X1 : ∀ w ∈ wsX10, w ∈ wsX1_share := by decide +kernel
set_option maxHeartbeats 4000000 in
set_option maxRecDepth 100000 in
theorem tX1_share_c43 {p1 : Int32} {rec8 : Int64 → Int32 → q_M → Option (q_M)}  (C0 : CallFix p m c cX1_share 5 s args wsX1_share RX1) (hr : meth.sig.returnType = none) (hlk : meth.locks = false) {out : q_M} (hrec8 : ∀ (v2 : Int64) (v4 : Int32) (σ : q_M) (H : Heap) (locs : List Loc) (ls : Array Slot), q_H (gX D cI cJ cS ad adK adV) (q_A (gX D cI cJ cS ad adK adV) s.heap.size) s σ H locs → lv_has ls 5 [(0, .ref (ad 25)), (1, .int p1), (2, .long v2), (4, .int v4)] → rec8 v2 v4 σ = some out → W p l e { frames := 0, cells := 0, slots := 0, locals := 0 } s m args below meth c H locs 0 0 (MQ below (q_Rv (gX D cI cJ cS ad adK adV) (q_A (gX D cI cJ cS ad adK adV) s.heap.size) out) args s 0 0 (q_A (gX D cI cJ cS ad adK adV) s.heap.size)) (F0 m 8 ls [])) : ∀ (v2 : Int64) (v4 : Int32) (s0 : Int64) (s1 : Int32) (σ : q_M) (H : Heap) (locs : List Loc) (ls : Array Slot), q_H (gX D cI cJ cS ad adK adV) (q_A (gX D cI cJ cS ad adK adV) s.heap.size) s σ H locs → lv_has ls 5 [(0, .ref (ad 25)), (1, .int p1), (2, .long v2), (4, .int v4)] → fX1_share_c43 p1 rec8 v2 v4 s0 s1 σ = some out → W p l e { frames := 0, cells := 0, slots := 0, locals := 0 } s m args below meth c H locs 0 0 (MQ below (q_Rv (gX D cI cJ cS ad adK adV) (q_A (gX D cI cJ cS ad adK adV) s.heap.size) out) args s 0 0 (q_A (gX D cI cJ cS ad adK adV) s.heap.size)) (F0 m 43 ls [.long s0, .int s1, .ref (ad 27)]) := by
  obtain ⟨hx, hb, hml, hown, hts⟩ := id C0
  intro v2 v4 s0 s1 σ H locs ls  hw hl h
  unfold fX1_share_c43 at h
  obtain ⟨b1, h⟩ := q_if h
  refine q_last (t0 := 1) C0 hw (xN_12 xF_27) (xE_12 xF_27) rfl b1 dX1_share_43 (fun σ2 H locs e_σ2 hw => ?_)
  replace h := q_let_at e_σ2 h
  refine lv_lload_n hx hb dX1_share_44 rfl (lv_at hl 2 rfl) ?_
  refine lv_aload_n hx hb dX1_share_45 rfl (lv_at hl 0 rfl) ?_
  refine gt_X1_2 C0 hw xF_25 iX1_share_X1 (by decide +kernel) dX1_share_46 ?_
  refine lv_iload hx hb dX1_share_49 (lv_at hl 3 rfl) ?_
  obtain ⟨b3, h⟩ := q_if h
  refine q_lald (t0 := 1) C0 hw (xN_12 xF_27) (xE_12 xF_27) rfl b3 dX1_share_51 ?_
  refine lv_ldc2 (v := (-1 : Int64)) hx hb hown (hts (.constantLong RX1 27 (-1)) (by decide +kernel)) dX1_share_52 ?_
  refine lv_lxor hx hb dX1_share_55 ?_
  refine lv_land hx hb dX1_share_56 ?_
  refine lv_topl (fun x4 e_x4 => ?_)
  replace h := q_let_at e_x4 h
  refine lv_lstore_n (lv' := [(2, .long x4), (0, .ref (ad 25)), (1, .int p1), (4, .int v4)]) hx hb dX1_share_57 rfl hl (by decide) rfl (fun ls hl => ?_)
  refine lv_iinc (v := (v4 + (1 : Int32))) (lv' := [(4, .int (v4 + (1 : Int32))), (2, .long x4), (0, .ref (ad 25)), (1, .int p1)]) hx hb dX1_share_58 hl (k := 3) rfl rfl (by decide) rfl (fun ls hl => ?_)
  refine lv_goto (tgt := 8) hx hb dX1_share_61 (by decide) ?_
  exact hrec8 x4 (v4 + (1 : Int32)) σ2 _ _ _ hw (lv_sub hl [2, 3, 1, 0] rfl) h
set_option maxHeartbeats 4000000 in
set_option maxRecDepth 100000 in
theorem tX1_share_c8 {p1 : Int32}  (C0 : CallFix p m c cX1_share 5 s args wsX1_share RX1) (hr : meth.sig.returnType = none) (hlk : meth.locks = false) {out : q_M}  : ∀ n : Nat, ∀ (v2 : Int64) (v4 : Int32) (σ : q_M) (H : Heap) (locs : List Loc) (ls : Array Slot), q_H (gX D cI cJ cS ad adK adV) (q_A (gX D cI cJ cS ad adK adV) s.heap.size) s σ H locs → lv_has ls 5 [(0, .ref (ad 25)), (1, .int p1), (2, .long v2), (4, .int v4)] → fX1_share_c8 p1 n v2 v4 σ = some out → W p l e { frames := 0, cells := 0, slots := 0, locals := 0 } s m args below meth c H locs 0 0 (MQ below (q_Rv (gX D cI cJ cS ad adK adV) (q_A (gX D cI cJ cS ad adK adV) s.heap.size) out) args s 0 0 (q_A (gX D cI cJ cS ad adK adV) s.heap.size)) (F0 m 8 ls []) := by
  obtain ⟨hx, hb, hml, hown, hts⟩ := id C0
  intro n
  induction n with
  | zero =>
    intro v2 v4 σ H locs ls  hw hl h
    cases (show (none : Option (q_M)) = some out from h)
  | succ n hrec8 =>
    intro v2 v4 σ H locs ls  hw hl h
    replace h : fX1_share_c8b p1 (fX1_share_c8 p1 n) v2 v4 σ = some out := h
    unfold fX1_share_c8b at h
    refine lv_iload hx hb dX1_share_8 (lv_at hl 3 rfl) ?_
    refine lv_bipush (v := (6 : Int32)) hx hb dX1_share_10 (by decide) ?_
    refine lv_icmp_ge (tgt := 64) hx hb dX1_share_12 (by decide) (fun c1 => ?_) (fun c1 => ?_)
    · replace h := q_t h c1
      exact q_vret h C0 hr hlk hw dX1_share_64
    · replace h := q_f h c1
      refine lv_aload_n hx hb dX1_share_15 rfl (lv_at hl 0 rfl) ?_
      refine gt_X1_2 C0 hw xF_25 iX1_share_X1 (by decide +kernel) dX1_share_16 ?_
      refine lv_iload hx hb dX1_share_19 (lv_at hl 3 rfl) ?_
      refine lv_iload_n hx hb dX1_share_21 rfl (lv_at hl 1 rfl) ?_
      refine lv_iload hx hb dX1_share_22 (lv_at hl 3 rfl) ?_
      refine q_ishr (v := (q_sr p1 v4)) C0 dX1_share_24 rfl ?_
      refine lv_iconst (v := (1 : Int32)) hx hb dX1_share_25 (by decide) ?_
      refine lv_iand hx hb dX1_share_26 ?_
      refine lv_if_eq (tgt := 42) hx hb dX1_share_27 (by decide) (fun c2 => ?_) (fun c2 => ?_)
      · replace h := q_t h c2
        refine lv_lconst (v := (0 : Int64)) hx hb dX1_share_42 (by decide) ?_
        exact tX1_share_c43 C0 hr hlk hrec8 v2 v4 (0 : Int64) v4 σ _ _ _ hw (lv_sub hl [0, 1, 2, 3] rfl) h
      · replace h := q_f h c2
        refine lv_aload_n hx hb dX1_share_30 rfl (lv_at hl 0 rfl) ?_
        refine gt_X1_1 C0 hw xF_25 iX1_share_X1 (by decide +kernel) dX1_share_31 ?_
        refine lv_iload hx hb dX1_share_34 (lv_at hl 3 rfl) ?_
        obtain ⟨b3, h⟩ := q_if h
        refine q_lald (t0 := 1) C0 hw (xN_12 xF_26) (xE_12 xF_26) rfl b3 dX1_share_36 ?_
        refine lv_lload_n hx hb dX1_share_37 rfl (lv_at hl 2 rfl) ?_
        refine lv_land hx hb dX1_share_38 ?_
        refine lv_goto (tgt := 43) hx hb dX1_share_39 (by decide) ?_
        exact tX1_share_c43 C0 hr hlk hrec8 v2 v4 ((σ.2 26 v4.toNatClampNeg) &&& v2) v4 σ _ _ _ hw (lv_sub hl [0, 1, 2, 3] rfl) h
set_option maxHeartbeats 4000000 in
set_option maxRecDepth 100000 in
theorem kX1_share {p1 : Int32}  {σ : q_M} {out : q_M} (h : fX1_share p1 σ = some out) : q_Mv l (gX D cI cJ cS ad adK adV) yX1_share wsX1_share { frames := 0, cells := 0, slots := 0, locals := 0 } [.ref (ad 25), .int p1] σ out := by
  refine q_Mv_of (cc := cX1_share) (maxL := 5) (ret := none) (by decide) rfl (Nat.le_of_ble_eq_true rfl) ?_
  intro p e s m below meth c ls C0 hr hlk hl hw
  obtain ⟨hx, hb, hml, hown, hts⟩ := id C0
  replace hl : lv_has ls 5 [(0, .ref (ad 25)), (1, .int p1)] := hl
  unfold fX1_share at h
  refine lv_aload_n hx hb dX1_share_0 rfl (lv_at hl 0 rfl) ?_
  refine gt_X1_0 C0 hw xF_25 iX1_share_X1 (by decide +kernel) dX1_share_1 ?_
  refine lv_lstore_n (lv' := [(2, .long (σ.2 25 0)), (0, .ref (ad 25)), (1, .int p1)]) hx hb dX1_share_4 rfl hl (by decide) rfl (fun ls hl => ?_)
  refine lv_iconst (v := (0 : Int32)) hx hb dX1_share_5 (by decide) ?_
  refine lv_istore (lv' := [(4, .int (0 : Int32)), (2, .long (σ.2 25 0)), (0, .ref (ad 25)), (1, .int p1)]) hx hb dX1_share_6 hl (by decide) rfl (fun ls hl => ?_)
  exact tX1_share_c8 C0 hr hlk q_FU (σ.2 25 0) (0 : Int32) σ _ _ _ hw (lv_sub hl [2, 3, 1, 0] rfl) h
-- X1_leastSeamWays leastSeamWays(LMouldThatComesOff$Mould;)I
theorem eX1_seam : yX1_seam.cls = RX1 ∧ yX1_seam.cls ≠ "java/lang/invoke/MethodHandle" ∧ yX1_seam.cls ≠ "java/lang/invoke/VarHandle" ∧ (parseMethodDescriptor yX1_seam.desc).map (fun d => d.parameters.length) = some 1 := by decide +kernel
theorem eX1_share : yX1_share.cls = RX1 ∧ yX1_share.cls ≠ "java/lang/invoke/MethodHandle" ∧ yX1_share.cls ≠ "java/lang/invoke/VarHandle" ∧ (parseMethodDescriptor yX1_share.desc).map (fun d => d.parameters.length) = some 1 := by decide +kernel
set_option maxHeartbeats 4000000 in
set_option maxRecDepth 100000 in
theorem tX1_leastSeamWays_c7 {k1 : Nat} (hk1 : xK k1 = 1) (C0 : CallFix p m c cX1_leastSeamWays 6 s args wsX1_leastSeamWays RX1) (hr : meth.sig.returnType = (some .int)) (hlk : meth.locks = false) {out : Int32 × q_M}  : ∀ n : Nat, ∀ (v2 : Int32) (v3 : Int32) (v4 : Int32) (σ : q_M) (H : Heap) (locs : List Loc) (ls : Array Slot), q_H (gX D cI cJ cS ad adK adV) (q_A (gX D cI cJ cS ad adK adV) s.heap.size) s σ H locs → lv_has ls 6 [(0, .ref (ad 25)), (1, .ref (ad k1)), (2, .int v2), (3, .int v3), (4, .int v4)] → fX1_leastSeamWays_c7 k1 n v2 v3 v4 σ = some out → W p l e { frames := 3, cells := 0, slots := 0, locals := 72 } s m args below meth c H locs 0 0 (MQ below (q_Ri (gX D cI cJ cS ad adK adV) (q_A (gX D cI cJ cS ad adK adV) s.heap.size) out) args s 0 0 (q_A (gX D cI cJ cS ad adK adV) s.heap.size)) (F0 m 7 ls []) := by
  obtain ⟨hx, hb, hml, hown, hts⟩ := id C0
  intro n
  induction n with
  | zero =>
    intro v2 v3 v4 σ H locs ls  hw hl h
    cases (show (none : Option (Int32 × q_M)) = some out from h)
  | succ n hrec7 =>
    intro v2 v3 v4 σ H locs ls  hw hl h
    replace h : fX1_leastSeamWays_c7b k1 (fX1_leastSeamWays_c7 k1 n) v2 v3 v4 σ = some out := h
    unfold fX1_leastSeamWays_c7b at h
    refine lv_iload hx hb dX1_leastSeamWays_7 (lv_at hl 4 rfl) ?_
    refine lv_bipush (v := (64 : Int32)) hx hb dX1_leastSeamWays_9 (by decide) ?_
    refine lv_icmp_ge (tgt := 62) hx hb dX1_leastSeamWays_11 (by decide) (fun c1 => ?_) (fun c1 => ?_)
    · replace h := q_t h c1
      refine lv_iload_n hx hb dX1_leastSeamWays_62 rfl (lv_at hl 2 rfl) ?_
      exact q_iret h C0 hr hlk hw dX1_leastSeamWays_63
    · replace h := q_f h c1
      refine lv_aload_n hx hb dX1_leastSeamWays_14 rfl (lv_at hl 0 rfl) ?_
      refine lv_iload hx hb dX1_leastSeamWays_15 (lv_at hl 4 rfl) ?_
      obtain ⟨o2, hco2, h⟩ := q_bind h
      refine q_calli hw (va_runV (As := [.int v4]) (rest := []) C0 (kX1_suffices hco2 _) (cwV 1 hts gX1_leastSeamWays_X1_suffices rfl rfl rfl eX1_suffices ⟨(Nat.le_of_ble_eq_true rfl), (Nat.le_of_ble_eq_true rfl)⟩) ⟨q_blind, q_recv hw (xN_11 xF_25) (xE_11 xF_25) rfl, q_pre hw⟩ rfl rfl hl.1 rfl (lv_room (Nat.le_of_ble_eq_true rfl)) dX1_leastSeamWays_17 ⟨Nat.zero_le _, Nat.zero_le _⟩) (fun H locs hw => ?_)
      refine lv_if_ne (tgt := 26) hx hb dX1_leastSeamWays_20 (by decide) (fun c3 => ?_) (fun c3 => ?_)
      · replace h := q_f h c3
        refine lv_aload_n hx hb dX1_leastSeamWays_26 rfl (lv_at hl 0 rfl) ?_
        refine lv_iload hx hb dX1_leastSeamWays_27 (lv_at hl 4 rfl) ?_
        obtain ⟨o4, hco4, h⟩ := q_bind h
        refine q_callv hw (va_runV (As := [.int v4]) (rest := []) C0 (kX1_share hco4 _) (cwV 1 hts gX1_leastSeamWays_X1_share rfl rfl rfl eX1_share ⟨(Nat.le_of_ble_eq_true rfl), (Nat.le_of_ble_eq_true rfl)⟩) ⟨q_blind, q_recv hw (xN_11 xF_25) (xE_11 xF_25) rfl, q_pre hw⟩ rfl rfl hl.1 rfl (lv_room (Nat.le_of_ble_eq_true rfl)) dX1_leastSeamWays_29 ⟨Nat.zero_le _, Nat.zero_le _⟩) (fun H locs hw => ?_)
        refine lv_aload_n hx hb dX1_leastSeamWays_32 rfl (lv_at hl 0 rfl) ?_
        refine lv_aload_n hx hb dX1_leastSeamWays_33 rfl (lv_at hl 1 rfl) ?_
        obtain ⟨o5, hco5, h⟩ := q_bind h
        refine q_calli hw (va_runV (As := [.ref (ad k1)]) (rest := []) C0 (kX1_seam hk1 hco5 _) (cwV 1 hts gX1_leastSeamWays_X1_seam rfl rfl rfl eX1_seam ⟨(Nat.le_of_ble_eq_true rfl), (Nat.le_of_ble_eq_true rfl)⟩) ⟨q_blind, q_recv hw (xN_11 xF_25) (xE_11 xF_25) rfl, q_pre hw⟩ rfl rfl hl.1 rfl (lv_room (Nat.le_of_ble_eq_true rfl)) dX1_leastSeamWays_34 ⟨Nat.zero_le _, Nat.zero_le _⟩) (fun H locs hw => ?_)
        refine lv_istore (lv' := [(5, .int o5.1), (0, .ref (ad 25)), (1, .ref (ad k1)), (2, .int v2), (3, .int v3), (4, .int v4)]) hx hb dX1_leastSeamWays_37 hl (by decide) rfl (fun ls hl => ?_)
        refine lv_iload_n hx hb dX1_leastSeamWays_39 rfl (lv_at hl 3 rfl) ?_
        refine lv_iconst (v := (-1 : Int32)) hx hb dX1_leastSeamWays_40 (by decide) ?_
        refine lv_icmp_eq (tgt := 50) hx hb dX1_leastSeamWays_41 (by decide) (fun c6 => ?_) (fun c6 => ?_)
        · replace h := q_t h c6
          refine lv_iload hx hb dX1_leastSeamWays_50 (lv_at hl 0 rfl) ?_
          refine lv_istore_n (lv' := [(3, .int o5.1), (5, .int o5.1), (0, .ref (ad 25)), (1, .ref (ad k1)), (2, .int v2), (4, .int v4)]) hx hb dX1_leastSeamWays_52 rfl hl (by decide) rfl (fun ls hl => ?_)
          refine lv_iload hx hb dX1_leastSeamWays_53 (lv_at hl 5 rfl) ?_
          refine lv_istore_n (lv' := [(2, .int v4), (3, .int o5.1), (5, .int o5.1), (0, .ref (ad 25)), (1, .ref (ad k1)), (4, .int v4)]) hx hb dX1_leastSeamWays_55 rfl hl (by decide) rfl (fun ls hl => ?_)
          refine lv_iinc (v := (v4 + (1 : Int32))) (lv' := [(4, .int (v4 + (1 : Int32))), (2, .int v4), (3, .int o5.1), (5, .int o5.1), (0, .ref (ad 25)), (1, .ref (ad k1))]) hx hb dX1_leastSeamWays_56 hl (k := 5) rfl rfl (by decide) rfl (fun ls hl => ?_)
          refine lv_goto (tgt := 7) hx hb dX1_leastSeamWays_59 (by decide) ?_
          exact hrec7 v4 o5.1 (v4 + (1 : Int32)) o5.2 _ _ _ hw (lv_sub hl [4, 5, 1, 2, 0] rfl) h
        · replace h := q_f h c6
          refine lv_iload hx hb dX1_leastSeamWays_44 (lv_at hl 0 rfl) ?_
          refine lv_iload_n hx hb dX1_leastSeamWays_46 rfl (lv_at hl 4 rfl) ?_
          refine lv_icmp_ge (tgt := 56) hx hb dX1_leastSeamWays_47 (by decide) (fun c7 => ?_) (fun c7 => ?_)
          · replace h := q_t h c7
            refine lv_iinc (v := (v4 + (1 : Int32))) (lv' := [(4, .int (v4 + (1 : Int32))), (5, .int o5.1), (0, .ref (ad 25)), (1, .ref (ad k1)), (2, .int v2), (3, .int v3)]) hx hb dX1_leastSeamWays_56 hl (k := 5) rfl rfl (by decide) rfl (fun ls hl => ?_)
            refine lv_goto (tgt := 7) hx hb dX1_leastSeamWays_59 (by decide) ?_
            exact hrec7 v2 v3 (v4 + (1 : Int32)) o5.2 _ _ _ hw (lv_sub hl [2, 3, 4, 5, 0] rfl) h
          · replace h := q_f h c7
            refine lv_iload hx hb dX1_leastSeamWays_50 (lv_at hl 0 rfl) ?_
            refine lv_istore_n (lv' := [(3, .int o5.1), (5, .int o5.1), (0, .ref (ad 25)), (1, .ref (ad k1)), (2, .int v2), (4, .int v4)]) hx hb dX1_leastSeamWays_52 rfl hl (by decide) rfl (fun ls hl => ?_)
            refine lv_iload hx hb dX1_leastSeamWays_53 (lv_at hl 5 rfl) ?_
            refine lv_istore_n (lv' := [(2, .int v4), (3, .int o5.1), (5, .int o5.1), (0, .ref (ad 25)), (1, .ref (ad k1)), (4, .int v4)]) hx hb dX1_leastSeamWays_55 rfl hl (by decide) rfl (fun ls hl => ?_)
            refine lv_iinc (v := (v4 + (1 : Int32))) (lv' := [(4, .int (v4 + (1 : Int32))), (2, .int v4), (3, .int o5.1), (5, .int o5.1), (0, .ref (ad 25)), (1, .ref (ad k1))]) hx hb dX1_leastSeamWays_56 hl (k := 5) rfl rfl (by decide) rfl (fun ls hl => ?_)
            refine lv_goto (tgt := 7) hx hb dX1_leastSeamWays_59 (by decide) ?_
            exact hrec7 v4 o5.1 (v4 + (1 : Int32)) o5.2 _ _ _ hw (lv_sub hl [4, 5, 1, 2, 0] rfl) h
      · replace h := q_t h c3
        refine lv_goto (tgt := 56) hx hb dX1_leastSeamWays_23 (by decide) ?_
        refine lv_iinc (v := (v4 + (1 : Int32))) (lv' := [(4, .int (v4 + (1 : Int32))), (0, .ref (ad 25)), (1, .ref (ad k1)), (2, .int v2), (3, .int v3)]) hx hb dX1_leastSeamWays_56 hl (k := 4) rfl rfl (by decide) rfl (fun ls hl => ?_)
        refine lv_goto (tgt := 7) hx hb dX1_leastSeamWays_59 (by decide) ?_
        exact hrec7 v2 v3 (v4 + (1 : Int32)) o2.2 _ _ _ hw (lv_sub hl [1, 2, 3, 4, 0] rfl) h
set_option maxHeartbeats 4000000 in
set_option maxRecDepth 100000 in
theorem kX1_leastSeamWays {k1 : Nat} (hk1 : xK k1 = 1) {σ : q_M} {out : Int32 × q_M} (h : fX1_leastSeamWays k1 σ = some out) : q_Mi l (gX D cI cJ cS ad adK adV) yX1_leastSeamWays wsX1_leastSeamWays { frames := 3, cells := 0, slots := 0, locals := 72 } [.ref (ad 25), .ref (ad k1)] σ out := by
  refine q_Mi_of (cc := cX1_leastSeamWays) (maxL := 6) (ret := (some .int)) (by decide) rfl (Nat.le_of_ble_eq_true rfl) ?_
  intro p e s m below meth c ls C0 hr hlk hl hw
  obtain ⟨hx, hb, hml, hown, hts⟩ := id C0
  replace hl : lv_has ls 6 [(0, .ref (ad 25)), (1, .ref (ad k1))] := hl
  unfold fX1_leastSeamWays at h
  refine lv_iconst (v := (-1 : Int32)) hx hb dX1_leastSeamWays_0 (by decide) ?_
  refine lv_istore_n (lv' := [(2, .int (-1 : Int32)), (0, .ref (ad 25)), (1, .ref (ad k1))]) hx hb dX1_leastSeamWays_1 rfl hl (by decide) rfl (fun ls hl => ?_)
  refine lv_iconst (v := (0 : Int32)) hx hb dX1_leastSeamWays_2 (by decide) ?_
  refine lv_istore_n (lv' := [(3, .int (0 : Int32)), (2, .int (-1 : Int32)), (0, .ref (ad 25)), (1, .ref (ad k1))]) hx hb dX1_leastSeamWays_3 rfl hl (by decide) rfl (fun ls hl => ?_)
  refine lv_iconst (v := (0 : Int32)) hx hb dX1_leastSeamWays_4 (by decide) ?_
  refine lv_istore (lv' := [(4, .int (0 : Int32)), (3, .int (0 : Int32)), (2, .int (-1 : Int32)), (0, .ref (ad 25)), (1, .ref (ad k1))]) hx hb dX1_leastSeamWays_5 hl (by decide) rfl (fun ls hl => ?_)
  exact tX1_leastSeamWays_c7 hk1 C0 hr hlk q_FU (-1 : Int32) (0 : Int32) (0 : Int32) σ _ _ _ hw (lv_sub hl [3, 4, 2, 1, 0] rfl) h
-- X1_countOwnedParts countOwnedParts(LMouldThatComesOff$Block;)I
theorem iX1_countOwnedParts_X1 : ∀ w ∈ wsX10, w ∈ wsX1_countOwnedParts := by decide +kernel
theorem eX0_countParts : yX0_countParts.cls = RX0 ∧ yX0_countParts.cls ≠ "java/lang/invoke/MethodHandle" ∧ yX0_countParts.cls ≠ "java/lang/invoke/VarHandle" ∧ (parseMethodDescriptor yX0_countParts.desc).map (fun d => d.parameters.length) = some 1 := by decide +kernel
set_option maxHeartbeats 4000000 in
set_option maxRecDepth 100000 in
theorem tX1_countOwnedParts_c4 {k1 : Nat} (hk1 : xK k1 = 2) (C0 : CallFix p m c cX1_countOwnedParts 4 s args wsX1_countOwnedParts RX1) (hr : meth.sig.returnType = (some .int)) (hlk : meth.locks = false) {out : Int32 × q_M}  : ∀ n : Nat, ∀ (v2 : Int32) (v3 : Int32) (σ : q_M) (H : Heap) (locs : List Loc) (ls : Array Slot), q_H (gX D cI cJ cS ad adK adV) (q_A (gX D cI cJ cS ad adK adV) s.heap.size) s σ H locs → lv_has ls 4 [(0, .ref (ad 25)), (1, .ref (ad k1)), (2, .int v2), (3, .int v3)] → fX1_countOwnedParts_c4 k1 n v2 v3 σ = some out → W p l e { frames := 4, cells := 0, slots := 0, locals := 106 } s m args below meth c H locs 0 0 (MQ below (q_Ri (gX D cI cJ cS ad adK adV) (q_A (gX D cI cJ cS ad adK adV) s.heap.size) out) args s 0 0 (q_A (gX D cI cJ cS ad adK adV) s.heap.size)) (F0 m 4 ls []) := by
  obtain ⟨hx, hb, hml, hown, hts⟩ := id C0
  intro n
  induction n with
  | zero =>
    intro v2 v3 σ H locs ls  hw hl h
    cases (show (none : Option (Int32 × q_M)) = some out from h)
  | succ n hrec4 =>
    intro v2 v3 σ H locs ls  hw hl h
    replace h : fX1_countOwnedParts_c4b k1 (fX1_countOwnedParts_c4 k1 n) v2 v3 σ = some out := h
    unfold fX1_countOwnedParts_c4b at h
    refine lv_iload_n hx hb dX1_countOwnedParts_4 rfl (lv_at hl 3 rfl) ?_
    refine lv_bipush (v := (6 : Int32)) hx hb dX1_countOwnedParts_5 (by decide) ?_
    refine lv_icmp_ge (tgt := 29) hx hb dX1_countOwnedParts_7 (by decide) (fun c1 => ?_) (fun c1 => ?_)
    · replace h := q_t h c1
      refine lv_iload_n hx hb dX1_countOwnedParts_29 rfl (lv_at hl 2 rfl) ?_
      exact q_iret h C0 hr hlk hw dX1_countOwnedParts_30
    · replace h := q_f h c1
      refine lv_iload_n hx hb dX1_countOwnedParts_10 rfl (lv_at hl 2 rfl) ?_
      refine lv_aload_n hx hb dX1_countOwnedParts_11 rfl (lv_at hl 1 rfl) ?_
      refine lv_aload_n hx hb dX1_countOwnedParts_12 rfl (lv_at hl 0 rfl) ?_
      refine gt_X1_2 C0 hw xF_25 iX1_countOwnedParts_X1 (by decide +kernel) dX1_countOwnedParts_13 ?_
      refine lv_iload_n hx hb dX1_countOwnedParts_16 rfl (lv_at hl 3 rfl) ?_
      obtain ⟨b2, h⟩ := q_if h
      refine q_lald (t0 := 1) C0 hw (xN_12 xF_27) (xE_12 xF_27) rfl b2 dX1_countOwnedParts_17 ?_
      obtain ⟨o3, hco3, h⟩ := q_bind h
      refine q_calli hw (va_runV (As := [.long (σ.2 27 v3.toNatClampNeg)]) (rest := [.int v2]) C0 (kX0_countParts hk1 hco3 _) (cwV 1 hts gX1_countOwnedParts_X0_countParts rfl rfl rfl eX0_countParts ⟨(Nat.le_of_ble_eq_true rfl), (Nat.le_of_ble_eq_true rfl)⟩) ⟨q_blind, q_recv hw (xN_2 hk1) (xE_2 hk1) rfl, q_pre hw⟩ rfl rfl hl.1 rfl (lv_room (Nat.le_of_ble_eq_true rfl)) dX1_countOwnedParts_18 ⟨Nat.zero_le _, Nat.zero_le _⟩) (fun H locs hw => ?_)
      refine lv_iadd hx hb dX1_countOwnedParts_21 ?_
      refine lv_istore_n (lv' := [(2, .int (v2 + o3.1)), (0, .ref (ad 25)), (1, .ref (ad k1)), (3, .int v3)]) hx hb dX1_countOwnedParts_22 rfl hl (by decide) rfl (fun ls hl => ?_)
      refine lv_iinc (v := (v3 + (1 : Int32))) (lv' := [(3, .int (v3 + (1 : Int32))), (2, .int (v2 + o3.1)), (0, .ref (ad 25)), (1, .ref (ad k1))]) hx hb dX1_countOwnedParts_23 hl (k := 3) rfl rfl (by decide) rfl (fun ls hl => ?_)
      refine lv_goto (tgt := 4) hx hb dX1_countOwnedParts_26 (by decide) ?_
      exact hrec4 (v2 + o3.1) (v3 + (1 : Int32)) o3.2 _ _ _ hw (lv_sub hl [2, 3, 1, 0] rfl) h
set_option maxHeartbeats 4000000 in
set_option maxRecDepth 100000 in
theorem kX1_countOwnedParts {k1 : Nat} (hk1 : xK k1 = 2) {σ : q_M} {out : Int32 × q_M} (h : fX1_countOwnedParts k1 σ = some out) : q_Mi l (gX D cI cJ cS ad adK adV) yX1_countOwnedParts wsX1_countOwnedParts { frames := 4, cells := 0, slots := 0, locals := 106 } [.ref (ad 25), .ref (ad k1)] σ out := by
  refine q_Mi_of (cc := cX1_countOwnedParts) (maxL := 4) (ret := (some .int)) (by decide) rfl (Nat.le_of_ble_eq_true rfl) ?_
  intro p e s m below meth c ls C0 hr hlk hl hw
  obtain ⟨hx, hb, hml, hown, hts⟩ := id C0
  replace hl : lv_has ls 4 [(0, .ref (ad 25)), (1, .ref (ad k1))] := hl
  unfold fX1_countOwnedParts at h
  refine lv_iconst (v := (0 : Int32)) hx hb dX1_countOwnedParts_0 (by decide) ?_
  refine lv_istore_n (lv' := [(2, .int (0 : Int32)), (0, .ref (ad 25)), (1, .ref (ad k1))]) hx hb dX1_countOwnedParts_1 rfl hl (by decide) rfl (fun ls hl => ?_)
  refine lv_iconst (v := (0 : Int32)) hx hb dX1_countOwnedParts_2 (by decide) ?_
  refine lv_istore_n (lv' := [(3, .int (0 : Int32)), (2, .int (0 : Int32)), (0, .ref (ad 25)), (1, .ref (ad k1))]) hx hb dX1_countOwnedParts_3 rfl hl (by decide) rfl (fun ls hl => ?_)
  exact tX1_countOwnedParts_c4 hk1 C0 hr hlk q_FU (0 : Int32) (0 : Int32) σ _ _ _ hw (lv_sub hl [2, 3, 1, 0] rfl) h
-- X1_partOfLeast partOfLeast(LMouldThatComesOff$Block;J)J
theorem iX1_partOfLeast_X1 : ∀ w ∈ wsX10, w ∈ wsX1_partOfLeast := by decide +kernel
set_option maxHeartbeats 4000000 in
set_option maxRecDepth 100000 in
theorem tX1_partOfLeast_c6 {k1 : Nat} {p2 : Int64} (hk1 : xK k1 = 2) (C0 : CallFix p m c cX1_partOfLeast 7 s args wsX1_partOfLeast RX1) (hr : meth.sig.returnType = (some .long)) (hlk : meth.locks = false) {out : Int64 × q_M}  : ∀ n : Nat, ∀ (v4 : Int64) (v6 : Int32) (σ : q_M) (H : Heap) (locs : List Loc) (ls : Array Slot), q_H (gX D cI cJ cS ad adK adV) (q_A (gX D cI cJ cS ad adK adV) s.heap.size) s σ H locs → lv_has ls 7 [(0, .ref (ad 25)), (1, .ref (ad k1)), (2, .long p2), (4, .long v4), (6, .int v6)] → fX1_partOfLeast_c6 k1 p2 n v4 v6 σ = some out → W p l e { frames := 3, cells := 0, slots := 0, locals := 80 } s m args below meth c H locs 0 0 (MQ below (q_Rl (gX D cI cJ cS ad adK adV) (q_A (gX D cI cJ cS ad adK adV) s.heap.size) out) args s 0 0 (q_A (gX D cI cJ cS ad adK adV) s.heap.size)) (F0 m 6 ls []) := by
  obtain ⟨hx, hb, hml, hown, hts⟩ := id C0
  intro n
  induction n with
  | zero =>
    intro v4 v6 σ H locs ls  hw hl h
    cases (show (none : Option (Int64 × q_M)) = some out from h)
  | succ n hrec6 =>
    intro v4 v6 σ H locs ls  hw hl h
    replace h : fX1_partOfLeast_c6b k1 p2 (fX1_partOfLeast_c6 k1 p2 n) v4 v6 σ = some out := h
    unfold fX1_partOfLeast_c6b at h
    refine lv_iload hx hb dX1_partOfLeast_6 (lv_at hl 4 rfl) ?_
    refine lv_bipush (v := (6 : Int32)) hx hb dX1_partOfLeast_8 (by decide) ?_
    refine lv_icmp_ge (tgt := 39) hx hb dX1_partOfLeast_10 (by decide) (fun c1 => ?_) (fun c1 => ?_)
    · replace h := q_t h c1
      refine lv_lload hx hb dX1_partOfLeast_39 (lv_at hl 3 rfl) ?_
      exact q_lret h C0 hr hlk hw dX1_partOfLeast_41
    · replace h := q_f h c1
      refine lv_lload hx hb dX1_partOfLeast_13 (lv_at hl 3 rfl) ?_
      refine lv_aload_n hx hb dX1_partOfLeast_15 rfl (lv_at hl 1 rfl) ?_
      refine lv_aload_n hx hb dX1_partOfLeast_16 rfl (lv_at hl 0 rfl) ?_
      refine gt_X1_2 C0 hw xF_25 iX1_partOfLeast_X1 (by decide +kernel) dX1_partOfLeast_17 ?_
      refine lv_iload hx hb dX1_partOfLeast_20 (lv_at hl 4 rfl) ?_
      obtain ⟨b2, h⟩ := q_if h
      refine q_lald (t0 := 1) C0 hw (xN_12 xF_27) (xE_12 xF_27) rfl b2 dX1_partOfLeast_22 ?_
      refine lv_lload_n hx hb dX1_partOfLeast_23 rfl (lv_at hl 2 rfl) ?_
      refine lv_lload_n hx hb dX1_partOfLeast_24 rfl (lv_at hl 2 rfl) ?_
      refine lv_lneg hx hb dX1_partOfLeast_25 ?_
      refine lv_land hx hb dX1_partOfLeast_26 ?_
      obtain ⟨o3, hco3, h⟩ := q_bind h
      refine q_calll hw (va_runV (As := [.long (σ.2 27 v6.toNatClampNeg), .long (p2 &&& (-p2))]) (rest := [.long v4]) C0 (kX0_partAround hk1 hco3 _) (cwV 2 hts gX1_partOfLeast_X0_partAround rfl rfl rfl eX0_partAround ⟨(Nat.le_of_ble_eq_true rfl), (Nat.le_of_ble_eq_true rfl)⟩) ⟨q_blind, q_recv hw (xN_2 hk1) (xE_2 hk1) rfl, q_pre hw⟩ rfl rfl hl.1 rfl (lv_room (Nat.le_of_ble_eq_true rfl)) dX1_partOfLeast_27 ⟨Nat.zero_le _, Nat.zero_le _⟩) (fun H locs hw => ?_)
      refine lv_lor hx hb dX1_partOfLeast_30 ?_
      refine lv_lstore (lv' := [(4, .long (v4 ||| o3.1)), (0, .ref (ad 25)), (1, .ref (ad k1)), (2, .long p2), (6, .int v6)]) hx hb dX1_partOfLeast_31 hl (by decide) rfl (fun ls hl => ?_)
      refine lv_iinc (v := (v6 + (1 : Int32))) (lv' := [(6, .int (v6 + (1 : Int32))), (4, .long (v4 ||| o3.1)), (0, .ref (ad 25)), (1, .ref (ad k1)), (2, .long p2)]) hx hb dX1_partOfLeast_33 hl (k := 4) rfl rfl (by decide) rfl (fun ls hl => ?_)
      refine lv_goto (tgt := 6) hx hb dX1_partOfLeast_36 (by decide) ?_
      exact hrec6 (v4 ||| o3.1) (v6 + (1 : Int32)) o3.2 _ _ _ hw (lv_sub hl [2, 3, 4, 1, 0] rfl) h
set_option maxHeartbeats 4000000 in
set_option maxRecDepth 100000 in
theorem kX1_partOfLeast {k1 : Nat} {p2 : Int64} (hk1 : xK k1 = 2) {σ : q_M} {out : Int64 × q_M} (h : fX1_partOfLeast k1 p2 σ = some out) : q_Ml l (gX D cI cJ cS ad adK adV) yX1_partOfLeast wsX1_partOfLeast { frames := 3, cells := 0, slots := 0, locals := 80 } [.ref (ad 25), .ref (ad k1), .long p2] σ out := by
  refine q_Ml_of (cc := cX1_partOfLeast) (maxL := 7) (ret := (some .long)) (by decide) rfl (Nat.le_of_ble_eq_true rfl) ?_
  intro p e s m below meth c ls C0 hr hlk hl hw
  obtain ⟨hx, hb, hml, hown, hts⟩ := id C0
  replace hl : lv_has ls 7 [(0, .ref (ad 25)), (1, .ref (ad k1)), (2, .long p2)] := hl
  unfold fX1_partOfLeast at h
  refine lv_lconst (v := (0 : Int64)) hx hb dX1_partOfLeast_0 (by decide) ?_
  refine lv_lstore (lv' := [(4, .long (0 : Int64)), (0, .ref (ad 25)), (1, .ref (ad k1)), (2, .long p2)]) hx hb dX1_partOfLeast_1 hl (by decide) rfl (fun ls hl => ?_)
  refine lv_iconst (v := (0 : Int32)) hx hb dX1_partOfLeast_3 (by decide) ?_
  refine lv_istore (lv' := [(6, .int (0 : Int32)), (4, .long (0 : Int64)), (0, .ref (ad 25)), (1, .ref (ad k1)), (2, .long p2)]) hx hb dX1_partOfLeast_4 hl (by decide) rfl (fun ls hl => ?_)
  exact tX1_partOfLeast_c6 hk1 C0 hr hlk q_FU (0 : Int64) (0 : Int32) σ _ _ _ hw (lv_sub hl [2, 3, 4, 1, 0] rfl) h
-- X1_layPieces layPieces(LMouldThatComesOff$Mould;)V
theorem iX1_layPieces_X1 : ∀ w ∈ wsX10, w ∈ wsX1_layPieces := by decide +kernel
theorem iX1_layPieces_X2 : ∀ w ∈ wsX20, w ∈ wsX1_layPieces := by decide +kernel
theorem eX1_partOfLeast : yX1_partOfLeast.cls = RX1 ∧ yX1_partOfLeast.cls ≠ "java/lang/invoke/MethodHandle" ∧ yX1_partOfLeast.cls ≠ "java/lang/invoke/VarHandle" ∧ (parseMethodDescriptor yX1_partOfLeast.desc).map (fun d => d.parameters.length) = some 2 := by decide +kernel
theorem eX2_addPiece : yX2_addPiece.cls = RX2 ∧ yX2_addPiece.cls ≠ "java/lang/invoke/MethodHandle" ∧ yX2_addPiece.cls ≠ "java/lang/invoke/VarHandle" ∧ (parseMethodDescriptor yX2_addPiece.desc).map (fun d => d.parameters.length) = some 1 := by decide +kernel
set_option maxHeartbeats 4000000 in
set_option maxRecDepth 100000 in
theorem tX1_layPieces_c12 {k1 : Nat} (hk1 : xK k1 = 1) (C0 : CallFix p m c cX1_layPieces 7 s args wsX1_layPieces RX1) (hr : meth.sig.returnType = none) (hlk : meth.locks = false) {out : q_M}  : ∀ n : Nat, ∀ (v2 : Int64) (v4 : Int32) (σ : q_M) (H : Heap) (locs : List Loc) (ls : Array Slot), q_H (gX D cI cJ cS ad adK adV) (q_A (gX D cI cJ cS ad adK adV) s.heap.size) s σ H locs → lv_has ls 7 [(0, .ref (ad 25)), (1, .ref (ad k1)), (2, .long v2), (4, .int v4)] → fX1_layPieces_c12 k1 n v2 v4 σ = some out → W p l e { frames := 4, cells := 0, slots := 0, locals := 106 } s m args below meth c H locs 0 0 (MQ below (q_Rv (gX D cI cJ cS ad adK adV) (q_A (gX D cI cJ cS ad adK adV) s.heap.size) out) args s 0 0 (q_A (gX D cI cJ cS ad adK adV) s.heap.size)) (F0 m 12 ls []) := by
  obtain ⟨hx, hb, hml, hown, hts⟩ := id C0
  intro n
  induction n with
  | zero =>
    intro v2 v4 σ H locs ls  hw hl h
    cases (show (none : Option (q_M)) = some out from h)
  | succ n hrec12 =>
    intro v2 v4 σ H locs ls  hw hl h
    replace h : fX1_layPieces_c12b k1 (fX1_layPieces_c12 k1 n) v2 v4 σ = some out := h
    unfold fX1_layPieces_c12b at h
    refine lv_iload hx hb dX1_layPieces_12 (lv_at hl 3 rfl) ?_
    refine lv_bipush (v := (8 : Int32)) hx hb dX1_layPieces_14 (by decide) ?_
    refine lv_icmp_ge (tgt := 57) hx hb dX1_layPieces_16 (by decide) (fun c1 => ?_) (fun c1 => ?_)
    · replace h := q_t h c1
      exact q_vret h C0 hr hlk hw dX1_layPieces_57
    · replace h := q_f h c1
      refine lv_lload_n hx hb dX1_layPieces_19 rfl (lv_at hl 2 rfl) ?_
      refine lv_lconst (v := (0 : Int64)) hx hb dX1_layPieces_20 (by decide) ?_
      refine q_lcmp_eq (tgt := 57) C0 dX1_layPieces_21 dX1_layPieces_22 (by decide) (fun c2 => ?_) (fun c2 => ?_)
      · replace h := q_t h c2
        exact q_vret h C0 hr hlk hw dX1_layPieces_57
      · replace h := q_f h c2
        refine lv_aload_n hx hb dX1_layPieces_25 rfl (lv_at hl 0 rfl) ?_
        refine lv_aload_n hx hb dX1_layPieces_26 rfl (lv_at hl 1 rfl) ?_
        refine gt_X2_0 C0 hw hk1 iX1_layPieces_X2 (by decide +kernel) dX1_layPieces_27 ?_
        refine lv_lload_n hx hb dX1_layPieces_30 rfl (lv_at hl 2 rfl) ?_
        obtain ⟨o3, hco3, h⟩ := q_bind h
        refine q_calll hw (va_runV (As := [.ref (ad (k1 + 1)), .long v2]) (rest := []) C0 (kX1_partOfLeast (xD_1_1 hk1) hco3 _) (cwV 2 hts gX1_layPieces_X1_partOfLeast rfl rfl rfl eX1_partOfLeast ⟨(Nat.le_of_ble_eq_true rfl), (Nat.le_of_ble_eq_true rfl)⟩) ⟨q_blind, q_recv hw (xN_11 xF_25) (xE_11 xF_25) rfl, q_pre hw⟩ rfl rfl hl.1 rfl (lv_room (Nat.le_of_ble_eq_true rfl)) dX1_layPieces_31 ⟨Nat.zero_le _, Nat.zero_le _⟩) (fun H locs hw => ?_)
        refine lv_lstore (lv' := [(5, .long o3.1), (0, .ref (ad 25)), (1, .ref (ad k1)), (2, .long v2), (4, .int v4)]) hx hb dX1_layPieces_34 hl (by decide) rfl (fun ls hl => ?_)
        refine lv_aload_n hx hb dX1_layPieces_36 rfl (lv_at hl 2 rfl) ?_
        refine lv_lload hx hb dX1_layPieces_37 (lv_at hl 0 rfl) ?_
        obtain ⟨o4, hco4, h⟩ := q_bind h
        refine q_callv hw (va_runV (As := [.long o3.1]) (rest := []) C0 (kX2_addPiece hk1 hco4 _) (cwV 1 hts gX1_layPieces_X2_addPiece rfl rfl rfl eX2_addPiece ⟨(Nat.le_of_ble_eq_true rfl), (Nat.le_of_ble_eq_true rfl)⟩) ⟨q_blind, q_recv hw (xN_1 hk1) (xE_1 hk1) rfl, q_pre hw⟩ rfl rfl hl.1 rfl (lv_room (Nat.le_of_ble_eq_true rfl)) dX1_layPieces_39 ⟨Nat.zero_le _, Nat.zero_le _⟩) (fun H locs hw => ?_)
        refine lv_lload_n hx hb dX1_layPieces_42 rfl (lv_at hl 3 rfl) ?_
        refine lv_lload hx hb dX1_layPieces_43 (lv_at hl 0 rfl) ?_
        refine lv_ldc2 (v := (-1 : Int64)) hx hb hown (hts (.constantLong RX1 27 (-1)) (by decide +kernel)) dX1_layPieces_45 ?_
        refine lv_lxor hx hb dX1_layPieces_48 ?_
        refine lv_land hx hb dX1_layPieces_49 ?_
        refine lv_topl (fun x5 e_x5 => ?_)
        replace h := q_let_at e_x5 h
        refine lv_lstore_n (lv' := [(2, .long x5), (5, .long o3.1), (0, .ref (ad 25)), (1, .ref (ad k1)), (4, .int v4)]) hx hb dX1_layPieces_50 rfl hl (by decide) rfl (fun ls hl => ?_)
        refine lv_iinc (v := (v4 + (1 : Int32))) (lv' := [(4, .int (v4 + (1 : Int32))), (2, .long x5), (5, .long o3.1), (0, .ref (ad 25)), (1, .ref (ad k1))]) hx hb dX1_layPieces_51 hl (k := 4) rfl rfl (by decide) rfl (fun ls hl => ?_)
        refine lv_goto (tgt := 12) hx hb dX1_layPieces_54 (by decide) ?_
        exact hrec12 x5 (v4 + (1 : Int32)) o4 _ _ _ hw (lv_sub hl [3, 4, 1, 0] rfl) h
set_option maxHeartbeats 4000000 in
set_option maxRecDepth 100000 in
theorem kX1_layPieces {k1 : Nat} (hk1 : xK k1 = 1) {σ : q_M} {out : q_M} (h : fX1_layPieces k1 σ = some out) : q_Mv l (gX D cI cJ cS ad adK adV) yX1_layPieces wsX1_layPieces { frames := 4, cells := 0, slots := 0, locals := 106 } [.ref (ad 25), .ref (ad k1)] σ out := by
  refine q_Mv_of (cc := cX1_layPieces) (maxL := 7) (ret := none) (by decide) rfl (Nat.le_of_ble_eq_true rfl) ?_
  intro p e s m below meth c ls C0 hr hlk hl hw
  obtain ⟨hx, hb, hml, hown, hts⟩ := id C0
  replace hl : lv_has ls 7 [(0, .ref (ad 25)), (1, .ref (ad k1))] := hl
  unfold fX1_layPieces at h
  refine lv_aload_n hx hb dX1_layPieces_0 rfl (lv_at hl 1 rfl) ?_
  obtain ⟨o1, hco1, h⟩ := q_bind h
  refine q_callv hw (va_runV (As := []) (rest := []) C0 (kX2_dropPieces hk1 hco1 _) (cwV 0 hts gX1_layPieces_X2_dropPieces rfl rfl rfl eX2_dropPieces ⟨(Nat.le_of_ble_eq_true rfl), (Nat.le_of_ble_eq_true rfl)⟩) ⟨q_blind, q_recv hw (xN_1 hk1) (xE_1 hk1) rfl, q_pre hw⟩ rfl rfl hl.1 rfl (lv_room (Nat.le_of_ble_eq_true rfl)) dX1_layPieces_1 ⟨Nat.zero_le _, Nat.zero_le _⟩) (fun H locs hw => ?_)
  refine lv_aload_n hx hb dX1_layPieces_4 rfl (lv_at hl 0 rfl) ?_
  refine gt_X1_0 C0 hw xF_25 iX1_layPieces_X1 (by decide +kernel) dX1_layPieces_5 ?_
  refine lv_lstore_n (lv' := [(2, .long (o1.2 25 0)), (0, .ref (ad 25)), (1, .ref (ad k1))]) hx hb dX1_layPieces_8 rfl hl (by decide) rfl (fun ls hl => ?_)
  refine lv_iconst (v := (0 : Int32)) hx hb dX1_layPieces_9 (by decide) ?_
  refine lv_istore (lv' := [(4, .int (0 : Int32)), (2, .long (o1.2 25 0)), (0, .ref (ad 25)), (1, .ref (ad k1))]) hx hb dX1_layPieces_10 hl (by decide) rfl (fun ls hl => ?_)
  exact tX1_layPieces_c12 hk1 C0 hr hlk q_FU (o1.2 25 0) (0 : Int32) o1 _ _ _ hw (lv_sub hl [2, 3, 1, 0] rfl) h
end
