section
variable {p : Program} {l : Launch} {e : Env} {s : State} {m : MethodId} {args : Array Value} {below : List Frame} {meth : Method} {c : Code} {D : va_G} {cI cJ cR : ClassId} {ad adK adV : Nat → Nat} {N : Nat}
-- X9_serves serves(I)I
theorem iX9_serves_X9 : ∀ w ∈ wsX90, w ∈ wsX9_serves := by decide +kernel
theorem eX9_doServe : yX9_doServe.cls = RX9 ∧ yX9_doServe.cls ≠ "java/lang/invoke/MethodHandle" ∧ yX9_doServe.cls ≠ "java/lang/invoke/VarHandle" ∧ (parseMethodDescriptor yX9_doServe.desc).map (fun d => d.parameters.length) = some 1 := by decide +kernel
set_option maxHeartbeats 4000000 in
set_option maxRecDepth 100000 in
theorem kX9_serves {k : Nat} {p1 : Int32} (hk : mB N k) {σ : q_M} {out : Int32 × q_M} (h : fX9_serves k p1 σ = some out) : q_Mi l (gM D cI cJ cR ad adK adV N) yX9_serves wsX9_serves { frames := 4, cells := 0, slots := 0, locals := 96 } [.ref (ad k), .int p1] σ out := by
  refine q_Mi_of (cc := cX9_serves) (maxL := 2) (ret := (some .int)) (by decide) rfl (Nat.le_of_ble_eq_true rfl) ?_
  intro p e s m below meth c ls C0 hr hlk hl hw
  obtain ⟨hx, hb, hml, hown, hts⟩ := id C0
  replace hl : lv_has ls 2 [(0, .ref (ad k)), (1, .int p1)] := hl
  unfold fX9_serves at h
  refine lv_iload_n hx hb dX9_serves_0 rfl (lv_at hl 1 rfl) ?_
  refine lv_i2l hx hb dX9_serves_1 rfl ?_
  refine lv_lconst (v := (0 : Int64)) hx hb dX9_serves_2 (by decide) ?_
  refine lv_ldc2 (v := (63 : Int64)) hx hb hown (hts (.constantLong RX9 323 (63)) (by decide +kernel)) dX9_serves_3 ?_
  obtain ⟨o1, hco1, h⟩ := q_bind h
  refine q_calli hw (va_runS (As := [.long p1.toInt64, .long (0 : Int64), .long (63 : Int64)]) (rest := []) C0 (kX9_in hco1 _) (va_cwS 3 hts gX9_serves_X9_in rfl rfl rfl eX9_in ⟨(Nat.le_of_ble_eq_true rfl), (Nat.le_of_ble_eq_true rfl)⟩) ⟨q_blind, q_pre hw⟩ rfl rfl hl.1 rfl (lv_room (Nat.le_of_ble_eq_true rfl)) dX9_serves_6 ⟨Nat.zero_le _, Nat.zero_le _⟩) (fun H locs hw => ?_)
  refine lv_if_ne (tgt := 19) hx hb dX9_serves_9 (by decide) (fun c2 => ?_) (fun c2 => ?_)
  · replace h := q_f h c2
    refine lv_aload_n hx hb dX9_serves_19 rfl (lv_at hl 0 rfl) ?_
    refine lv_aload_n hx hb dX9_serves_20 rfl (lv_at hl 0 rfl) ?_
    refine gt_X9_12 C0 hw hk iX9_serves_X9 (by decide +kernel) dX9_serves_21 ?_
    obtain ⟨o3, hco3, h⟩ := q_bind h
    refine q_callv hw (va_runV (As := [.long (o1.2.2 k 12)]) (rest := []) C0 (kX9_findFree hk hco3 _) (cwV 1 hts gX9_serves_X9_findFree rfl rfl rfl eX9_findFree ⟨(Nat.le_of_ble_eq_true rfl), (Nat.le_of_ble_eq_true rfl)⟩) ⟨q_blind, q_recv hw (mN_0 hk) (mE_0 hk) rfl, q_pre hw⟩ rfl rfl hl.1 rfl (lv_room (Nat.le_of_ble_eq_true rfl)) dX9_serves_24 ⟨Nat.zero_le _, Nat.zero_le _⟩) (fun H locs hw => ?_)
    refine lv_aload_n hx hb dX9_serves_27 rfl (lv_at hl 0 rfl) ?_
    refine lv_iload_n hx hb dX9_serves_28 rfl (lv_at hl 1 rfl) ?_
    obtain ⟨o4, hco4, h⟩ := q_bind h
    refine q_calli hw (va_runV (As := [.int p1]) (rest := []) C0 (kX9_doServe hk hco4 _) (cwV 1 hts gX9_serves_X9_doServe rfl rfl rfl eX9_doServe ⟨(Nat.le_of_ble_eq_true rfl), (Nat.le_of_ble_eq_true rfl)⟩) ⟨q_blind, q_recv hw (mN_0 hk) (mE_0 hk) rfl, q_pre hw⟩ rfl rfl hl.1 rfl (lv_room (Nat.le_of_ble_eq_true rfl)) dX9_serves_29 ⟨Nat.zero_le _, Nat.zero_le _⟩) (fun H locs hw => ?_)
    refine lv_if_eq (tgt := 39) hx hb dX9_serves_32 (by decide) (fun c5 => ?_) (fun c5 => ?_)
    · replace h := q_t h c5
      refine lv_iconst (v := (0 : Int32)) hx hb dX9_serves_39 (by decide) ?_
      exact q_iret h C0 hr hlk hw dX9_serves_40
    · replace h := q_f h c5
      refine lv_iconst (v := (1 : Int32)) hx hb dX9_serves_35 (by decide) ?_
      refine lv_goto (tgt := 40) hx hb dX9_serves_36 (by decide) ?_
      exact q_iret h C0 hr hlk hw dX9_serves_40
  · replace h := q_t h c2
    refine lv_aload_n hx hb dX9_serves_12 rfl (lv_at hl 0 rfl) ?_
    refine lv_bipush (v := (-2 : Int32)) hx hb dX9_serves_13 (by decide) ?_
    obtain ⟨o6, hco6, h⟩ := q_bind h
    refine q_calli hw (va_runV (As := [.int (-2 : Int32)]) (rest := []) C0 (kX9_refuse hk hco6 _) (cwV 1 hts gX9_serves_X9_refuse rfl rfl rfl eX9_refuse ⟨(Nat.le_of_ble_eq_true rfl), (Nat.le_of_ble_eq_true rfl)⟩) ⟨q_blind, q_recv hw (mN_0 hk) (mE_0 hk) rfl, q_pre hw⟩ rfl rfl hl.1 rfl (lv_room (Nat.le_of_ble_eq_true rfl)) dX9_serves_15 ⟨Nat.zero_le _, Nat.zero_le _⟩) (fun H locs hw => ?_)
    exact q_iret h C0 hr hlk hw dX9_serves_18
-- X9_fewestFound fewestFound()I
set_option maxHeartbeats 4000000 in
set_option maxRecDepth 100000 in
theorem tX9_fewestFound_c4 {k : Nat} (hk : mB N k) (C0 : CallFix p m c cX9_fewestFound 3 s args wsX9_fewestFound RX9) (hr : meth.sig.returnType = (some .int)) (hlk : meth.locks = false) {out : Int32 × q_M}  : ∀ n : Nat, ∀ (v1 : Int32) (v2 : Int32) (σ : q_M) (H : Heap) (locs : List Loc) (ls : Array Slot), q_H (gM D cI cJ cR ad adK adV N) (q_A (gM D cI cJ cR ad adK adV N) s.heap.size) s σ H locs → lv_has ls 3 [(0, .ref (ad k)), (1, .int v1), (2, .int v2)] → fX9_fewestFound_c4 k n v1 v2 σ = some out → W p l e { frames := 2, cells := 0, slots := 0, locals := 45 } s m args below meth c H locs 0 0 (MQ below (q_Ri (gM D cI cJ cR ad adK adV N) (q_A (gM D cI cJ cR ad adK adV N) s.heap.size) out) args s 0 0 (q_A (gM D cI cJ cR ad adK adV N) s.heap.size)) (F0 m 4 ls []) := by
  obtain ⟨hx, hb, hml, hown, hts⟩ := id C0
  intro n
  induction n with
  | zero =>
    intro v1 v2 σ H locs ls  hw hl h
    cases (show (none : Option (Int32 × q_M)) = some out from h)
  | succ n hrec4 =>
    intro v1 v2 σ H locs ls  hw hl h
    replace h : fX9_fewestFound_c4b k (fX9_fewestFound_c4 k n) v1 v2 σ = some out := h
    unfold fX9_fewestFound_c4b at h
    refine lv_iload_n hx hb dX9_fewestFound_4 rfl (lv_at hl 2 rfl) ?_
    refine lv_bipush (v := (64 : Int32)) hx hb dX9_fewestFound_5 (by decide) ?_
    refine lv_icmp_ge (tgt := 44) hx hb dX9_fewestFound_7 (by decide) (fun c1 => ?_) (fun c1 => ?_)
    · replace h := q_t h c1
      refine lv_iload_n hx hb dX9_fewestFound_44 rfl (lv_at hl 1 rfl) ?_
      exact q_iret h C0 hr hlk hw dX9_fewestFound_45
    · replace h := q_f h c1
      refine lv_aload_n hx hb dX9_fewestFound_10 rfl (lv_at hl 0 rfl) ?_
      refine lv_iload_n hx hb dX9_fewestFound_11 rfl (lv_at hl 2 rfl) ?_
      obtain ⟨o2, hco2, h⟩ := q_bind h
      refine q_calli hw (va_runV (As := [.int v2]) (rest := []) C0 (kX9_doServe hk hco2 _) (cwV 1 hts gX9_fewestFound_X9_doServe rfl rfl rfl eX9_doServe ⟨(Nat.le_of_ble_eq_true rfl), (Nat.le_of_ble_eq_true rfl)⟩) ⟨q_blind, q_recv hw (mN_0 hk) (mE_0 hk) rfl, q_pre hw⟩ rfl rfl hl.1 rfl (lv_room (Nat.le_of_ble_eq_true rfl)) dX9_fewestFound_12 ⟨Nat.zero_le _, Nat.zero_le _⟩) (fun H locs hw => ?_)
      refine lv_if_eq (tgt := 38) hx hb dX9_fewestFound_15 (by decide) (fun c3 => ?_) (fun c3 => ?_)
      · replace h := q_t h c3
        refine lv_iinc (v := (v2 + (1 : Int32))) (lv' := [(2, .int (v2 + (1 : Int32))), (0, .ref (ad k)), (1, .int v1)]) hx hb dX9_fewestFound_38 hl (k := 2) rfl rfl (by decide) rfl (fun ls hl => ?_)
        refine lv_goto (tgt := 4) hx hb dX9_fewestFound_41 (by decide) ?_
        exact hrec4 v1 (v2 + (1 : Int32)) o2.2 _ _ _ hw (lv_sub hl [1, 2, 0] rfl) h
      · replace h := q_f h c3
        refine lv_iload_n hx hb dX9_fewestFound_18 rfl (lv_at hl 1 rfl) ?_
        refine lv_iconst (v := (-1 : Int32)) hx hb dX9_fewestFound_19 (by decide) ?_
        refine lv_icmp_eq (tgt := 36) hx hb dX9_fewestFound_20 (by decide) (fun c4 => ?_) (fun c4 => ?_)
        · replace h := q_t h c4
          refine lv_iload_n hx hb dX9_fewestFound_36 rfl (lv_at hl 2 rfl) ?_
          refine lv_istore_n (lv' := [(1, .int v2), (0, .ref (ad k)), (2, .int v2)]) hx hb dX9_fewestFound_37 rfl hl (by decide) rfl (fun ls hl => ?_)
          refine lv_iinc (v := (v2 + (1 : Int32))) (lv' := [(2, .int (v2 + (1 : Int32))), (1, .int v2), (0, .ref (ad k))]) hx hb dX9_fewestFound_38 hl (k := 2) rfl rfl (by decide) rfl (fun ls hl => ?_)
          refine lv_goto (tgt := 4) hx hb dX9_fewestFound_41 (by decide) ?_
          exact hrec4 v2 (v2 + (1 : Int32)) o2.2 _ _ _ hw (lv_sub hl [2, 1, 0] rfl) h
        · replace h := q_f h c4
          refine lv_iload_n hx hb dX9_fewestFound_23 rfl (lv_at hl 2 rfl) ?_
          refine lv_i2l hx hb dX9_fewestFound_24 rfl ?_
          obtain ⟨o5, hco5, h⟩ := q_bind h
          refine q_calli hw (va_runS (As := [.long v2.toInt64]) (rest := []) C0 (kX9_bits hco5 _) (va_cwS 1 hts gX9_fewestFound_X9_bits rfl rfl rfl eX9_bits ⟨(Nat.le_of_ble_eq_true rfl), (Nat.le_of_ble_eq_true rfl)⟩) ⟨q_blind, q_pre hw⟩ rfl rfl hl.1 rfl (lv_room (Nat.le_of_ble_eq_true rfl)) dX9_fewestFound_25 ⟨Nat.zero_le _, Nat.zero_le _⟩) (fun H locs hw => ?_)
          refine lv_iload_n hx hb dX9_fewestFound_28 rfl (lv_at hl 1 rfl) ?_
          refine lv_i2l hx hb dX9_fewestFound_29 rfl ?_
          obtain ⟨o6, hco6, h⟩ := q_bind h
          refine q_calli hw (va_runS (As := [.long v1.toInt64]) (rest := [.int o5.1]) C0 (kX9_bits hco6 _) (va_cwS 1 hts gX9_fewestFound_X9_bits rfl rfl rfl eX9_bits ⟨(Nat.le_of_ble_eq_true rfl), (Nat.le_of_ble_eq_true rfl)⟩) ⟨q_blind, q_pre hw⟩ rfl rfl hl.1 rfl (lv_room (Nat.le_of_ble_eq_true rfl)) dX9_fewestFound_30 ⟨Nat.zero_le _, Nat.zero_le _⟩) (fun H locs hw => ?_)
          refine lv_icmp_ge (tgt := 38) hx hb dX9_fewestFound_33 (by decide) (fun c7 => ?_) (fun c7 => ?_)
          · replace h := q_t h c7
            refine lv_iinc (v := (v2 + (1 : Int32))) (lv' := [(2, .int (v2 + (1 : Int32))), (0, .ref (ad k)), (1, .int v1)]) hx hb dX9_fewestFound_38 hl (k := 2) rfl rfl (by decide) rfl (fun ls hl => ?_)
            refine lv_goto (tgt := 4) hx hb dX9_fewestFound_41 (by decide) ?_
            exact hrec4 v1 (v2 + (1 : Int32)) o6.2 _ _ _ hw (lv_sub hl [1, 2, 0] rfl) h
          · replace h := q_f h c7
            refine lv_iload_n hx hb dX9_fewestFound_36 rfl (lv_at hl 2 rfl) ?_
            refine lv_istore_n (lv' := [(1, .int v2), (0, .ref (ad k)), (2, .int v2)]) hx hb dX9_fewestFound_37 rfl hl (by decide) rfl (fun ls hl => ?_)
            refine lv_iinc (v := (v2 + (1 : Int32))) (lv' := [(2, .int (v2 + (1 : Int32))), (1, .int v2), (0, .ref (ad k))]) hx hb dX9_fewestFound_38 hl (k := 2) rfl rfl (by decide) rfl (fun ls hl => ?_)
            refine lv_goto (tgt := 4) hx hb dX9_fewestFound_41 (by decide) ?_
            exact hrec4 v2 (v2 + (1 : Int32)) o6.2 _ _ _ hw (lv_sub hl [2, 1, 0] rfl) h
set_option maxHeartbeats 4000000 in
set_option maxRecDepth 100000 in
theorem kX9_fewestFound {k : Nat} (hk : mB N k) {σ : q_M} {out : Int32 × q_M} (h : fX9_fewestFound k σ = some out) : q_Mi l (gM D cI cJ cR ad adK adV N) yX9_fewestFound wsX9_fewestFound { frames := 2, cells := 0, slots := 0, locals := 45 } [.ref (ad k)] σ out := by
  refine q_Mi_of (cc := cX9_fewestFound) (maxL := 3) (ret := (some .int)) (by decide) rfl (Nat.le_of_ble_eq_true rfl) ?_
  intro p e s m below meth c ls C0 hr hlk hl hw
  obtain ⟨hx, hb, hml, hown, hts⟩ := id C0
  replace hl : lv_has ls 3 [(0, .ref (ad k))] := hl
  unfold fX9_fewestFound at h
  refine lv_iconst (v := (-1 : Int32)) hx hb dX9_fewestFound_0 (by decide) ?_
  refine lv_istore_n (lv' := [(1, .int (-1 : Int32)), (0, .ref (ad k))]) hx hb dX9_fewestFound_1 rfl hl (by decide) rfl (fun ls hl => ?_)
  refine lv_iconst (v := (0 : Int32)) hx hb dX9_fewestFound_2 (by decide) ?_
  refine lv_istore_n (lv' := [(2, .int (0 : Int32)), (1, .int (-1 : Int32)), (0, .ref (ad k))]) hx hb dX9_fewestFound_3 rfl hl (by decide) rfl (fun ls hl => ?_)
  exact tX9_fewestFound_c4 hk C0 hr hlk q_FU (-1 : Int32) (0 : Int32) σ _ _ _ hw (lv_sub hl [2, 1, 0] rfl) h
-- X9_fewest fewest()I
theorem iX9_fewest_X9 : ∀ w ∈ wsX90, w ∈ wsX9_fewest := by decide +kernel
theorem eX9_fewestFound : yX9_fewestFound.cls = RX9 ∧ yX9_fewestFound.cls ≠ "java/lang/invoke/MethodHandle" ∧ yX9_fewestFound.cls ≠ "java/lang/invoke/VarHandle" ∧ (parseMethodDescriptor yX9_fewestFound.desc).map (fun d => d.parameters.length) = some 0 := by decide +kernel
set_option maxHeartbeats 4000000 in
set_option maxRecDepth 100000 in
theorem kX9_fewest {k : Nat} (hk : mB N k) {σ : q_M} {out : Int32 × q_M} (h : fX9_fewest k σ = some out) : q_Mi l (gM D cI cJ cR ad adK adV N) yX9_fewest wsX9_fewest { frames := 4, cells := 0, slots := 0, locals := 96 } [.ref (ad k)] σ out := by
  refine q_Mi_of (cc := cX9_fewest) (maxL := 2) (ret := (some .int)) (by decide) rfl (Nat.le_of_ble_eq_true rfl) ?_
  intro p e s m below meth c ls C0 hr hlk hl hw
  obtain ⟨hx, hb, hml, hown, hts⟩ := id C0
  replace hl : lv_has ls 2 [(0, .ref (ad k))] := hl
  unfold fX9_fewest at h
  refine lv_aload_n hx hb dX9_fewest_0 rfl (lv_at hl 0 rfl) ?_
  refine lv_aload_n hx hb dX9_fewest_1 rfl (lv_at hl 0 rfl) ?_
  refine gt_X9_12 C0 hw hk iX9_fewest_X9 (by decide +kernel) dX9_fewest_2 ?_
  obtain ⟨o1, hco1, h⟩ := q_bind h
  refine q_callv hw (va_runV (As := [.long (σ.2 k 12)]) (rest := []) C0 (kX9_findFree hk hco1 _) (cwV 1 hts gX9_fewest_X9_findFree rfl rfl rfl eX9_findFree ⟨(Nat.le_of_ble_eq_true rfl), (Nat.le_of_ble_eq_true rfl)⟩) ⟨q_blind, q_recv hw (mN_0 hk) (mE_0 hk) rfl, q_pre hw⟩ rfl rfl hl.1 rfl (lv_room (Nat.le_of_ble_eq_true rfl)) dX9_fewest_5 ⟨Nat.zero_le _, Nat.zero_le _⟩) (fun H locs hw => ?_)
  refine lv_aload_n hx hb dX9_fewest_8 rfl (lv_at hl 0 rfl) ?_
  obtain ⟨o2, hco2, h⟩ := q_bind h
  refine q_calli hw (va_runV (As := []) (rest := []) C0 (kX9_fewestFound hk hco2 _) (cwV 0 hts gX9_fewest_X9_fewestFound rfl rfl rfl eX9_fewestFound ⟨(Nat.le_of_ble_eq_true rfl), (Nat.le_of_ble_eq_true rfl)⟩) ⟨q_blind, q_recv hw (mN_0 hk) (mE_0 hk) rfl, q_pre hw⟩ rfl rfl hl.1 rfl (lv_room (Nat.le_of_ble_eq_true rfl)) dX9_fewest_9 ⟨Nat.zero_le _, Nat.zero_le _⟩) (fun H locs hw => ?_)
  refine lv_istore_n (lv' := [(1, .int o2.1), (0, .ref (ad k))]) hx hb dX9_fewest_12 rfl hl (by decide) rfl (fun ls hl => ?_)
  refine lv_iload_n hx hb dX9_fewest_13 rfl (lv_at hl 0 rfl) ?_
  refine lv_iconst (v := (-1 : Int32)) hx hb dX9_fewest_14 (by decide) ?_
  refine lv_icmp_ne (tgt := 27) hx hb dX9_fewest_15 (by decide) (fun c3 => ?_) (fun c3 => ?_)
  · replace h := q_f h c3
    refine lv_iload_n hx hb dX9_fewest_27 rfl (lv_at hl 0 rfl) ?_
    exact q_iret h C0 hr hlk hw dX9_fewest_28
  · replace h := q_t h c3
    refine lv_aload_n hx hb dX9_fewest_18 rfl (lv_at hl 1 rfl) ?_
    refine lv_bipush (v := (-5 : Int32)) hx hb dX9_fewest_19 (by decide) ?_
    obtain ⟨o4, hco4, h⟩ := q_bind h
    refine q_calli hw (va_runV (As := [.int (-5 : Int32)]) (rest := []) C0 (kX9_refuse hk hco4 _) (cwV 1 hts gX9_fewest_X9_refuse rfl rfl rfl eX9_refuse ⟨(Nat.le_of_ble_eq_true rfl), (Nat.le_of_ble_eq_true rfl)⟩) ⟨q_blind, q_recv hw (mN_0 hk) (mE_0 hk) rfl, q_pre hw⟩ rfl rfl hl.1 rfl (lv_room (Nat.le_of_ble_eq_true rfl)) dX9_fewest_21 ⟨Nat.zero_le _, Nat.zero_le _⟩) (fun H locs hw => ?_)
    refine lv_goto (tgt := 28) hx hb dX9_fewest_24 (by decide) ?_
    exact q_iret h C0 hr hlk hw dX9_fewest_28
-- X9_findWays findWays(I)V
theorem iX9_findWays_X9 : ∀ w ∈ wsX90, w ∈ wsX9_findWays := by decide +kernel
set_option maxHeartbeats 4000000 in
set_option maxRecDepth 100000 in
theorem tX9_findWays_c19 {k : Nat} {p1 : Int32} {rec2 : Int32 → q_M → Option (q_M)} (hk : mB N k) (C0 : CallFix p m c cX9_findWays 4 s args wsX9_findWays RX9) (hr : meth.sig.returnType = none) (hlk : meth.locks = false) {out : q_M} (hrec2 : ∀ (v2 : Int32) (σ : q_M) (H : Heap) (locs : List Loc) (ls : Array Slot), q_H (gM D cI cJ cR ad adK adV N) (q_A (gM D cI cJ cR ad adK adV N) s.heap.size) s σ H locs → lv_has ls 4 [(0, .ref (ad k)), (1, .int p1), (2, .int v2)] → rec2 v2 σ = some out → W p l e { frames := 1, cells := 0, slots := 0, locals := 20 } s m args below meth c H locs 0 0 (MQ below (q_Rv (gM D cI cJ cR ad adK adV N) (q_A (gM D cI cJ cR ad adK adV N) s.heap.size) out) args s 0 0 (q_A (gM D cI cJ cR ad adK adV N) s.heap.size)) (F0 m 2 ls [])) : ∀ n : Nat, ∀ (v2 : Int32) (v3 : Int32) (σ : q_M) (H : Heap) (locs : List Loc) (ls : Array Slot), q_H (gM D cI cJ cR ad adK adV N) (q_A (gM D cI cJ cR ad adK adV N) s.heap.size) s σ H locs → lv_has ls 4 [(0, .ref (ad k)), (1, .int p1), (2, .int v2), (3, .int v3)] → fX9_findWays_c19 k p1 rec2 n v2 v3 σ = some out → W p l e { frames := 1, cells := 0, slots := 0, locals := 20 } s m args below meth c H locs 0 0 (MQ below (q_Rv (gM D cI cJ cR ad adK adV N) (q_A (gM D cI cJ cR ad adK adV N) s.heap.size) out) args s 0 0 (q_A (gM D cI cJ cR ad adK adV N) s.heap.size)) (F0 m 19 ls []) := by
  obtain ⟨hx, hb, hml, hown, hts⟩ := id C0
  intro n
  induction n with
  | zero =>
    intro v2 v3 σ H locs ls  hw hl h
    cases (show (none : Option (q_M)) = some out from h)
  | succ n hrec19 =>
    intro v2 v3 σ H locs ls  hw hl h
    replace h : fX9_findWays_c19b k p1 rec2 (fX9_findWays_c19 k p1 rec2 n) v2 v3 σ = some out := h
    unfold fX9_findWays_c19b at h
    refine lv_iload_n hx hb dX9_findWays_19 rfl (lv_at hl 3 rfl) ?_
    refine lv_if_lt (tgt := 70) hx hb dX9_findWays_20 (by decide) (fun c1 => ?_) (fun c1 => ?_)
    · replace h := q_t h c1
      refine lv_iinc (v := (v2 + (1 : Int32))) (lv' := [(2, .int (v2 + (1 : Int32))), (0, .ref (ad k)), (1, .int p1), (3, .int v3)]) hx hb dX9_findWays_70 hl (k := 2) rfl rfl (by decide) rfl (fun ls hl => ?_)
      refine lv_goto (tgt := 2) hx hb dX9_findWays_73 (by decide) ?_
      exact hrec2 (v2 + (1 : Int32)) σ _ _ _ hw (lv_sub hl [1, 2, 0] rfl) h
    · replace h := q_f h c1
      refine lv_aload_n hx hb dX9_findWays_23 rfl (lv_at hl 0 rfl) ?_
      refine gt_X9_32 C0 hw hk iX9_findWays_X9 (by decide +kernel) dX9_findWays_24 ?_
      refine lv_iload_n hx hb dX9_findWays_27 rfl (lv_at hl 2 rfl) ?_
      obtain ⟨b2, h⟩ := q_if h
      refine q_iald (t0 := 0) C0 hw (mN_16 hk) (mE_16 hk) rfl b2 dX9_findWays_28 ?_
      refine lv_iconst (v := (-1 : Int32)) hx hb dX9_findWays_29 (by decide) ?_
      refine lv_icmp_eq (tgt := 70) hx hb dX9_findWays_30 (by decide) (fun c3 => ?_) (fun c3 => ?_)
      · replace h := q_t h c3
        refine lv_iinc (v := (v2 + (1 : Int32))) (lv' := [(2, .int (v2 + (1 : Int32))), (0, .ref (ad k)), (1, .int p1), (3, .int v3)]) hx hb dX9_findWays_70 hl (k := 2) rfl rfl (by decide) rfl (fun ls hl => ?_)
        refine lv_goto (tgt := 2) hx hb dX9_findWays_73 (by decide) ?_
        exact hrec2 (v2 + (1 : Int32)) σ _ _ _ hw (lv_sub hl [1, 2, 0] rfl) h
      · replace h := q_f h c3
        refine lv_aload_n hx hb dX9_findWays_33 rfl (lv_at hl 0 rfl) ?_
        refine gt_X9_33 C0 hw hk iX9_findWays_X9 (by decide +kernel) dX9_findWays_34 ?_
        refine lv_iload_n hx hb dX9_findWays_37 rfl (lv_at hl 2 rfl) ?_
        refine lv_aload_n hx hb dX9_findWays_38 rfl (lv_at hl 0 rfl) ?_
        refine gt_X9_32 C0 hw hk iX9_findWays_X9 (by decide +kernel) dX9_findWays_39 ?_
        refine lv_iload_n hx hb dX9_findWays_42 rfl (lv_at hl 2 rfl) ?_
        obtain ⟨b4, h⟩ := q_if h
        refine q_iald (t0 := 0) C0 hw (mN_16 hk) (mE_16 hk) rfl b4 dX9_findWays_43 ?_
        refine lv_iload_n hx hb dX9_findWays_44 rfl (lv_at hl 1 rfl) ?_
        refine lv_iand hx hb dX9_findWays_45 ?_
        refine lv_iconst (v := (1 : Int32)) hx hb dX9_findWays_46 (by decide) ?_
        refine lv_iload_n hx hb dX9_findWays_47 rfl (lv_at hl 3 rfl) ?_
        refine q_ishl (v := (q_sl (1 : Int32) v3)) C0 dX9_findWays_48 rfl ?_
        refine lv_iand hx hb dX9_findWays_49 ?_
        refine lv_if_eq (tgt := 57) hx hb dX9_findWays_50 (by decide) (fun c5 => ?_) (fun c5 => ?_)
        · replace h := q_t h c5
          refine lv_aload_n hx hb dX9_findWays_57 rfl (lv_at hl 0 rfl) ?_
          refine gt_X9_33 C0 hw hk iX9_findWays_X9 (by decide +kernel) dX9_findWays_58 ?_
          refine lv_iload_n hx hb dX9_findWays_61 rfl (lv_at hl 2 rfl) ?_
          obtain ⟨b6, h⟩ := q_if h
          refine q_iald (t0 := 0) C0 hw (mN_17 hk) (mE_17 hk) rfl b6 dX9_findWays_62 ?_
          obtain ⟨b7, h⟩ := q_if h
          refine q_iast (t0 := 0) C0 hw (mN_17 hk) (mE_17 hk) rfl b7 dX9_findWays_63 (fun σ8 H locs e_σ8 hw => ?_)
          replace h := q_let_at e_σ8 h
          refine lv_iinc (v := (v3 + (-1 : Int32))) (lv' := [(3, .int (v3 + (-1 : Int32))), (0, .ref (ad k)), (1, .int p1), (2, .int v2)]) hx hb dX9_findWays_64 hl (k := 3) rfl rfl (by decide) rfl (fun ls hl => ?_)
          refine lv_goto (tgt := 19) hx hb dX9_findWays_67 (by decide) ?_
          exact hrec19 v2 (v3 + (-1 : Int32)) σ8 _ _ _ hw (lv_sub hl [1, 2, 3, 0] rfl) h
        · replace h := q_f h c5
          refine lv_iload_n hx hb dX9_findWays_53 rfl (lv_at hl 3 rfl) ?_
          refine lv_goto (tgt := 63) hx hb dX9_findWays_54 (by decide) ?_
          obtain ⟨b9, h⟩ := q_if h
          refine q_iast (t0 := 0) C0 hw (mN_17 hk) (mE_17 hk) rfl b9 dX9_findWays_63 (fun σ10 H locs e_σ10 hw => ?_)
          replace h := q_let_at e_σ10 h
          refine lv_iinc (v := (v3 + (-1 : Int32))) (lv' := [(3, .int (v3 + (-1 : Int32))), (0, .ref (ad k)), (1, .int p1), (2, .int v2)]) hx hb dX9_findWays_64 hl (k := 3) rfl rfl (by decide) rfl (fun ls hl => ?_)
          refine lv_goto (tgt := 19) hx hb dX9_findWays_67 (by decide) ?_
          exact hrec19 v2 (v3 + (-1 : Int32)) σ10 _ _ _ hw (lv_sub hl [1, 2, 3, 0] rfl) h
set_option maxHeartbeats 4000000 in
set_option maxRecDepth 100000 in
theorem tX9_findWays_c2 {k : Nat} {p1 : Int32} (hk : mB N k) (C0 : CallFix p m c cX9_findWays 4 s args wsX9_findWays RX9) (hr : meth.sig.returnType = none) (hlk : meth.locks = false) {out : q_M}  : ∀ n : Nat, ∀ (v2 : Int32) (σ : q_M) (H : Heap) (locs : List Loc) (ls : Array Slot), q_H (gM D cI cJ cR ad adK adV N) (q_A (gM D cI cJ cR ad adK adV N) s.heap.size) s σ H locs → lv_has ls 4 [(0, .ref (ad k)), (1, .int p1), (2, .int v2)] → fX9_findWays_c2 k p1 n v2 σ = some out → W p l e { frames := 1, cells := 0, slots := 0, locals := 20 } s m args below meth c H locs 0 0 (MQ below (q_Rv (gM D cI cJ cR ad adK adV N) (q_A (gM D cI cJ cR ad adK adV N) s.heap.size) out) args s 0 0 (q_A (gM D cI cJ cR ad adK adV N) s.heap.size)) (F0 m 2 ls []) := by
  obtain ⟨hx, hb, hml, hown, hts⟩ := id C0
  intro n
  induction n with
  | zero =>
    intro v2 σ H locs ls  hw hl h
    cases (show (none : Option (q_M)) = some out from h)
  | succ n hrec2 =>
    intro v2 σ H locs ls  hw hl h
    replace h : fX9_findWays_c2b k p1 (fX9_findWays_c2 k p1 n) v2 σ = some out := h
    unfold fX9_findWays_c2b at h
    refine lv_iload_n hx hb dX9_findWays_2 rfl (lv_at hl 2 rfl) ?_
    refine lv_aload_n hx hb dX9_findWays_3 rfl (lv_at hl 0 rfl) ?_
    obtain ⟨o1, hco1, h⟩ := q_bind h
    refine q_calli hw (va_runV (As := []) (rest := [.int v2]) C0 (kX9_many hk hco1 _) (cwV 0 hts gX9_findWays_X9_many rfl rfl rfl eX9_many ⟨(Nat.le_of_ble_eq_true rfl), (Nat.le_of_ble_eq_true rfl)⟩) ⟨q_blind, q_recv hw (mN_0 hk) (mE_0 hk) rfl, q_pre hw⟩ rfl rfl hl.1 rfl (lv_room (Nat.le_of_ble_eq_true rfl)) dX9_findWays_4 ⟨Nat.zero_le _, Nat.zero_le _⟩) (fun H locs hw => ?_)
    refine lv_icmp_ge (tgt := 76) hx hb dX9_findWays_7 (by decide) (fun c2 => ?_) (fun c2 => ?_)
    · replace h := q_t h c2
      exact q_vret h C0 hr hlk hw dX9_findWays_76
    · replace h := q_f h c2
      refine lv_aload_n hx hb dX9_findWays_10 rfl (lv_at hl 0 rfl) ?_
      refine gt_X9_33 C0 hw hk iX9_findWays_X9 (by decide +kernel) dX9_findWays_11 ?_
      refine lv_iload_n hx hb dX9_findWays_14 rfl (lv_at hl 2 rfl) ?_
      refine lv_iconst (v := (-1 : Int32)) hx hb dX9_findWays_15 (by decide) ?_
      obtain ⟨b3, h⟩ := q_if h
      refine q_iast (t0 := 0) C0 hw (mN_17 hk) (mE_17 hk) rfl b3 dX9_findWays_16 (fun σ4 H locs e_σ4 hw => ?_)
      replace h := q_let_at e_σ4 h
      refine lv_iconst (v := (5 : Int32)) hx hb dX9_findWays_17 (by decide) ?_
      refine lv_istore_n (lv' := [(3, .int (5 : Int32)), (0, .ref (ad k)), (1, .int p1), (2, .int v2)]) hx hb dX9_findWays_18 rfl hl (by decide) rfl (fun ls hl => ?_)
      exact tX9_findWays_c19 hk C0 hr hlk hrec2 q_FU v2 (5 : Int32) σ4 _ _ _ hw (lv_sub hl [1, 2, 3, 0] rfl) h
set_option maxHeartbeats 4000000 in
set_option maxRecDepth 100000 in
theorem kX9_findWays {k : Nat} {p1 : Int32} (hk : mB N k) {σ : q_M} {out : q_M} (h : fX9_findWays k p1 σ = some out) : q_Mv l (gM D cI cJ cR ad adK adV N) yX9_findWays wsX9_findWays { frames := 1, cells := 0, slots := 0, locals := 20 } [.ref (ad k), .int p1] σ out := by
  refine q_Mv_of (cc := cX9_findWays) (maxL := 4) (ret := none) (by decide) rfl (Nat.le_of_ble_eq_true rfl) ?_
  intro p e s m below meth c ls C0 hr hlk hl hw
  obtain ⟨hx, hb, hml, hown, hts⟩ := id C0
  replace hl : lv_has ls 4 [(0, .ref (ad k)), (1, .int p1)] := hl
  unfold fX9_findWays at h
  refine lv_iconst (v := (0 : Int32)) hx hb dX9_findWays_0 (by decide) ?_
  refine lv_istore_n (lv' := [(2, .int (0 : Int32)), (0, .ref (ad k)), (1, .int p1)]) hx hb dX9_findWays_1 rfl hl (by decide) rfl (fun ls hl => ?_)
  exact tX9_findWays_c2 hk C0 hr hlk q_FU (0 : Int32) σ _ _ _ hw (lv_sub hl [1, 2, 0] rfl) h
-- X9_seam seam()I
theorem iX9_seam_X9 : ∀ w ∈ wsX90, w ∈ wsX9_seam := by decide +kernel
set_option maxHeartbeats 4000000 in
set_option maxRecDepth 100000 in
theorem tX9_seam_c76 {k : Nat} {rec4 : Int32 → Int32 → q_M → Option (Int32 × q_M)} {rec14 : Int32 → Int32 → Int32 → q_M → Option (Int32 × q_M)} (hk : mB N k) (C0 : CallFix p m c cX9_seam 6 s args wsX9_seam RX9) (hr : meth.sig.returnType = (some .int)) (hlk : meth.locks = false) {out : Int32 × q_M} (hrec4 : ∀ (v1 : Int32) (v2 : Int32) (σ : q_M) (H : Heap) (locs : List Loc) (ls : Array Slot), q_H (gM D cI cJ cR ad adK adV N) (q_A (gM D cI cJ cR ad adK adV N) s.heap.size) s σ H locs → lv_has ls 6 [(0, .ref (ad k)), (1, .int v1), (2, .int v2)] → rec4 v1 v2 σ = some out → W p l e { frames := 2, cells := 0, slots := 0, locals := 46 } s m args below meth c H locs 0 0 (MQ below (q_Ri (gM D cI cJ cR ad adK adV N) (q_A (gM D cI cJ cR ad adK adV N) s.heap.size) out) args s 0 0 (q_A (gM D cI cJ cR ad adK adV N) s.heap.size)) (F0 m 4 ls [])) (hrec14 : ∀ (v1 : Int32) (v2 : Int32) (v3 : Int32) (σ : q_M) (H : Heap) (locs : List Loc) (ls : Array Slot), q_H (gM D cI cJ cR ad adK adV N) (q_A (gM D cI cJ cR ad adK adV N) s.heap.size) s σ H locs → lv_has ls 6 [(0, .ref (ad k)), (1, .int v1), (2, .int v2), (3, .int v3)] → rec14 v1 v2 v3 σ = some out → W p l e { frames := 2, cells := 0, slots := 0, locals := 46 } s m args below meth c H locs 0 0 (MQ below (q_Ri (gM D cI cJ cR ad adK adV N) (q_A (gM D cI cJ cR ad adK adV N) s.heap.size) out) args s 0 0 (q_A (gM D cI cJ cR ad adK adV N) s.heap.size)) (F0 m 14 ls [])) : ∀ (v1 : Int32) (v2 : Int32) (v3 : Int32) (v4 : Int32) (s0 : Int32) (σ : q_M) (H : Heap) (locs : List Loc) (ls : Array Slot), q_H (gM D cI cJ cR ad adK adV N) (q_A (gM D cI cJ cR ad adK adV N) s.heap.size) s σ H locs → lv_has ls 6 [(0, .ref (ad k)), (1, .int v1), (2, .int v2), (3, .int v3), (4, .int v4)] → fX9_seam_c76 k rec4 rec14 v1 v2 v3 v4 s0 σ = some out → W p l e { frames := 2, cells := 0, slots := 0, locals := 46 } s m args below meth c H locs 0 0 (MQ below (q_Ri (gM D cI cJ cR ad adK adV N) (q_A (gM D cI cJ cR ad adK adV N) s.heap.size) out) args s 0 0 (q_A (gM D cI cJ cR ad adK adV N) s.heap.size)) (F0 m 76 ls [.int s0]) := by
  obtain ⟨hx, hb, hml, hown, hts⟩ := id C0
  intro v1 v2 v3 v4 s0 σ H locs ls  hw hl h
  unfold fX9_seam_c76 at h
  refine lv_istore (lv' := [(5, .int s0), (0, .ref (ad k)), (1, .int v1), (2, .int v2), (3, .int v3), (4, .int v4)]) hx hb dX9_seam_76 hl (by decide) rfl (fun ls hl => ?_)
  refine lv_iload_n hx hb dX9_seam_78 rfl (lv_at hl 2 rfl) ?_
  refine lv_iload hx hb dX9_seam_79 (lv_at hl 0 rfl) ?_
  refine lv_if_eq (tgt := 101) hx hb dX9_seam_81 (by decide) (fun c1 => ?_) (fun c1 => ?_)
  · replace h := q_t h c1
    refine lv_iconst (v := (0 : Int32)) hx hb dX9_seam_101 (by decide) ?_
    refine lv_iadd hx hb dX9_seam_102 ?_
    refine lv_istore_n (lv' := [(1, .int (v1 + (0 : Int32))), (5, .int s0), (0, .ref (ad k)), (2, .int v2), (3, .int v3), (4, .int v4)]) hx hb dX9_seam_103 rfl hl (by decide) rfl (fun ls hl => ?_)
    refine lv_iinc (v := (v3 + (2 : Int32))) (lv' := [(3, .int (v3 + (2 : Int32))), (1, .int (v1 + (0 : Int32))), (5, .int s0), (0, .ref (ad k)), (2, .int v2), (4, .int v4)]) hx hb dX9_seam_104 hl (k := 4) rfl rfl (by decide) rfl (fun ls hl => ?_)
    refine lv_goto (tgt := 14) hx hb dX9_seam_107 (by decide) ?_
    exact hrec14 (v1 + (0 : Int32)) v2 (v3 + (2 : Int32)) σ _ _ _ hw (lv_sub hl [3, 1, 4, 0] rfl) h
  · replace h := q_f h c1
    refine lv_aload_n hx hb dX9_seam_84 rfl (lv_at hl 1 rfl) ?_
    refine gt_X9_16 C0 hw hk iX9_seam_X9 (by decide +kernel) dX9_seam_85 ?_
    refine lv_iload_n hx hb dX9_seam_88 rfl (lv_at hl 3 rfl) ?_
    obtain ⟨b2, h⟩ := q_if h
    refine q_iald (t0 := 0) C0 hw (mN_12 hk) (mE_12 hk) rfl b2 dX9_seam_89 ?_
    refine lv_aload_n hx hb dX9_seam_90 rfl (lv_at hl 1 rfl) ?_
    refine gt_X9_16 C0 hw hk iX9_seam_X9 (by decide +kernel) dX9_seam_91 ?_
    refine lv_iload hx hb dX9_seam_94 (lv_at hl 5 rfl) ?_
    obtain ⟨b3, h⟩ := q_if h
    refine q_iald (t0 := 0) C0 hw (mN_12 hk) (mE_12 hk) rfl b3 dX9_seam_96 ?_
    refine lv_iadd hx hb dX9_seam_97 ?_
    refine lv_goto (tgt := 102) hx hb dX9_seam_98 (by decide) ?_
    refine lv_iadd hx hb dX9_seam_102 ?_
    refine lv_topi (fun x4 e_x4 => ?_)
    replace h := q_let_at e_x4 h
    refine lv_istore_n (lv' := [(1, .int x4), (5, .int s0), (0, .ref (ad k)), (2, .int v2), (3, .int v3), (4, .int v4)]) hx hb dX9_seam_103 rfl hl (by decide) rfl (fun ls hl => ?_)
    refine lv_iinc (v := (v3 + (2 : Int32))) (lv' := [(3, .int (v3 + (2 : Int32))), (1, .int x4), (5, .int s0), (0, .ref (ad k)), (2, .int v2), (4, .int v4)]) hx hb dX9_seam_104 hl (k := 4) rfl rfl (by decide) rfl (fun ls hl => ?_)
    refine lv_goto (tgt := 14) hx hb dX9_seam_107 (by decide) ?_
    exact hrec14 x4 v2 (v3 + (2 : Int32)) σ _ _ _ hw (lv_sub hl [3, 1, 4, 0] rfl) h
set_option maxHeartbeats 4000000 in
set_option maxRecDepth 100000 in
theorem tX9_seam_c14 {k : Nat} {rec4 : Int32 → Int32 → q_M → Option (Int32 × q_M)} (hk : mB N k) (C0 : CallFix p m c cX9_seam 6 s args wsX9_seam RX9) (hr : meth.sig.returnType = (some .int)) (hlk : meth.locks = false) {out : Int32 × q_M} (hrec4 : ∀ (v1 : Int32) (v2 : Int32) (σ : q_M) (H : Heap) (locs : List Loc) (ls : Array Slot), q_H (gM D cI cJ cR ad adK adV N) (q_A (gM D cI cJ cR ad adK adV N) s.heap.size) s σ H locs → lv_has ls 6 [(0, .ref (ad k)), (1, .int v1), (2, .int v2)] → rec4 v1 v2 σ = some out → W p l e { frames := 2, cells := 0, slots := 0, locals := 46 } s m args below meth c H locs 0 0 (MQ below (q_Ri (gM D cI cJ cR ad adK adV N) (q_A (gM D cI cJ cR ad adK adV N) s.heap.size) out) args s 0 0 (q_A (gM D cI cJ cR ad adK adV N) s.heap.size)) (F0 m 4 ls [])) : ∀ n : Nat, ∀ (v1 : Int32) (v2 : Int32) (v3 : Int32) (σ : q_M) (H : Heap) (locs : List Loc) (ls : Array Slot), q_H (gM D cI cJ cR ad adK adV N) (q_A (gM D cI cJ cR ad adK adV N) s.heap.size) s σ H locs → lv_has ls 6 [(0, .ref (ad k)), (1, .int v1), (2, .int v2), (3, .int v3)] → fX9_seam_c14 k rec4 n v1 v2 v3 σ = some out → W p l e { frames := 2, cells := 0, slots := 0, locals := 46 } s m args below meth c H locs 0 0 (MQ below (q_Ri (gM D cI cJ cR ad adK adV N) (q_A (gM D cI cJ cR ad adK adV N) s.heap.size) out) args s 0 0 (q_A (gM D cI cJ cR ad adK adV N) s.heap.size)) (F0 m 14 ls []) := by
  obtain ⟨hx, hb, hml, hown, hts⟩ := id C0
  intro n
  induction n with
  | zero =>
    intro v1 v2 v3 σ H locs ls  hw hl h
    cases (show (none : Option (Int32 × q_M)) = some out from h)
  | succ n hrec14 =>
    intro v1 v2 v3 σ H locs ls  hw hl h
    replace h : fX9_seam_c14b k rec4 (fX9_seam_c14 k rec4 n) v1 v2 v3 σ = some out := h
    unfold fX9_seam_c14b at h
    refine lv_iload_n hx hb dX9_seam_14 rfl (lv_at hl 3 rfl) ?_
    refine lv_bipush (v := (6 : Int32)) hx hb dX9_seam_15 (by decide) ?_
    refine lv_icmp_ge (tgt := 110) hx hb dX9_seam_17 (by decide) (fun c1 => ?_) (fun c1 => ?_)
    · replace h := q_t h c1
      refine lv_iinc (v := (v2 + (1 : Int32))) (lv' := [(2, .int (v2 + (1 : Int32))), (0, .ref (ad k)), (1, .int v1), (3, .int v3)]) hx hb dX9_seam_110 hl (k := 2) rfl rfl (by decide) rfl (fun ls hl => ?_)
      refine lv_goto (tgt := 4) hx hb dX9_seam_113 (by decide) ?_
      exact hrec4 v1 (v2 + (1 : Int32)) σ _ _ _ hw (lv_sub hl [1, 2, 0] rfl) h
    · replace h := q_f h c1
      refine lv_aload_n hx hb dX9_seam_20 rfl (lv_at hl 0 rfl) ?_
      refine lv_iload_n hx hb dX9_seam_21 rfl (lv_at hl 2 rfl) ?_
      refine lv_iload_n hx hb dX9_seam_22 rfl (lv_at hl 3 rfl) ?_
      obtain ⟨o2, hco2, h⟩ := q_bind h
      refine q_calli hw (va_runV (As := [.int v2, .int v3]) (rest := []) C0 (kX9_from hk hco2 _) (cwV 2 hts gX9_seam_X9_from rfl rfl rfl eX9_from ⟨(Nat.le_of_ble_eq_true rfl), (Nat.le_of_ble_eq_true rfl)⟩) ⟨q_blind, q_recv hw (mN_0 hk) (mE_0 hk) rfl, q_pre hw⟩ rfl rfl hl.1 rfl (lv_room (Nat.le_of_ble_eq_true rfl)) dX9_seam_23 ⟨Nat.zero_le _, Nat.zero_le _⟩) (fun H locs hw => ?_)
      refine lv_istore (lv' := [(4, .int o2.1), (0, .ref (ad k)), (1, .int v1), (2, .int v2), (3, .int v3)]) hx hb dX9_seam_26 hl (by decide) rfl (fun ls hl => ?_)
      refine lv_iload hx hb dX9_seam_28 (lv_at hl 0 rfl) ?_
      refine lv_iconst (v := (-1 : Int32)) hx hb dX9_seam_30 (by decide) ?_
      refine lv_icmp_eq (tgt := 75) hx hb dX9_seam_31 (by decide) (fun c3 => ?_) (fun c3 => ?_)
      · replace h := q_t h c3
        refine lv_iconst (v := (0 : Int32)) hx hb dX9_seam_75 (by decide) ?_
        exact tX9_seam_c76 hk C0 hr hlk hrec4 hrec14 v1 v2 v3 o2.1 (0 : Int32) o2.2 _ _ _ hw (lv_sub hl [1, 2, 3, 4, 0] rfl) h
      · replace h := q_f h c3
        refine lv_aload_n hx hb dX9_seam_34 rfl (lv_at hl 1 rfl) ?_
        refine gt_X9_33 C0 hw hk iX9_seam_X9 (by decide +kernel) dX9_seam_35 ?_
        refine lv_iload_n hx hb dX9_seam_38 rfl (lv_at hl 3 rfl) ?_
        obtain ⟨b4, h⟩ := q_if h
        refine q_iald (t0 := 0) C0 hw (mN_17 hk) (mE_17 hk) rfl b4 dX9_seam_39 ?_
        refine lv_iconst (v := (-1 : Int32)) hx hb dX9_seam_40 (by decide) ?_
        refine lv_icmp_eq (tgt := 75) hx hb dX9_seam_41 (by decide) (fun c5 => ?_) (fun c5 => ?_)
        · replace h := q_t h c5
          refine lv_iconst (v := (0 : Int32)) hx hb dX9_seam_75 (by decide) ?_
          exact tX9_seam_c76 hk C0 hr hlk hrec4 hrec14 v1 v2 v3 o2.1 (0 : Int32) o2.2 _ _ _ hw (lv_sub hl [1, 2, 3, 4, 0] rfl) h
        · replace h := q_f h c5
          refine lv_aload_n hx hb dX9_seam_44 rfl (lv_at hl 1 rfl) ?_
          refine gt_X9_33 C0 hw hk iX9_seam_X9 (by decide +kernel) dX9_seam_45 ?_
          refine lv_iload hx hb dX9_seam_48 (lv_at hl 0 rfl) ?_
          obtain ⟨b6, h⟩ := q_if h
          refine q_iald (t0 := 0) C0 hw (mN_17 hk) (mE_17 hk) rfl b6 dX9_seam_50 ?_
          refine lv_iconst (v := (-1 : Int32)) hx hb dX9_seam_51 (by decide) ?_
          refine lv_icmp_eq (tgt := 75) hx hb dX9_seam_52 (by decide) (fun c7 => ?_) (fun c7 => ?_)
          · replace h := q_t h c7
            refine lv_iconst (v := (0 : Int32)) hx hb dX9_seam_75 (by decide) ?_
            exact tX9_seam_c76 hk C0 hr hlk hrec4 hrec14 v1 v2 v3 o2.1 (0 : Int32) o2.2 _ _ _ hw (lv_sub hl [1, 2, 3, 4, 0] rfl) h
          · replace h := q_f h c7
            refine lv_aload_n hx hb dX9_seam_55 rfl (lv_at hl 1 rfl) ?_
            refine gt_X9_33 C0 hw hk iX9_seam_X9 (by decide +kernel) dX9_seam_56 ?_
            refine lv_iload_n hx hb dX9_seam_59 rfl (lv_at hl 3 rfl) ?_
            obtain ⟨b8, h⟩ := q_if h
            refine q_iald (t0 := 0) C0 hw (mN_17 hk) (mE_17 hk) rfl b8 dX9_seam_60 ?_
            refine lv_aload_n hx hb dX9_seam_61 rfl (lv_at hl 1 rfl) ?_
            refine gt_X9_33 C0 hw hk iX9_seam_X9 (by decide +kernel) dX9_seam_62 ?_
            refine lv_iload hx hb dX9_seam_65 (lv_at hl 0 rfl) ?_
            obtain ⟨b9, h⟩ := q_if h
            refine q_iald (t0 := 0) C0 hw (mN_17 hk) (mE_17 hk) rfl b9 dX9_seam_67 ?_
            refine lv_icmp_eq (tgt := 75) hx hb dX9_seam_68 (by decide) (fun c10 => ?_) (fun c10 => ?_)
            · replace h := q_t h c10
              refine lv_iconst (v := (0 : Int32)) hx hb dX9_seam_75 (by decide) ?_
              exact tX9_seam_c76 hk C0 hr hlk hrec4 hrec14 v1 v2 v3 o2.1 (0 : Int32) o2.2 _ _ _ hw (lv_sub hl [1, 2, 3, 4, 0] rfl) h
            · replace h := q_f h c10
              refine lv_iconst (v := (1 : Int32)) hx hb dX9_seam_71 (by decide) ?_
              refine lv_goto (tgt := 76) hx hb dX9_seam_72 (by decide) ?_
              exact tX9_seam_c76 hk C0 hr hlk hrec4 hrec14 v1 v2 v3 o2.1 (1 : Int32) o2.2 _ _ _ hw (lv_sub hl [1, 2, 3, 4, 0] rfl) h
set_option maxHeartbeats 4000000 in
set_option maxRecDepth 100000 in
theorem tX9_seam_c4 {k : Nat} (hk : mB N k) (C0 : CallFix p m c cX9_seam 6 s args wsX9_seam RX9) (hr : meth.sig.returnType = (some .int)) (hlk : meth.locks = false) {out : Int32 × q_M}  : ∀ n : Nat, ∀ (v1 : Int32) (v2 : Int32) (σ : q_M) (H : Heap) (locs : List Loc) (ls : Array Slot), q_H (gM D cI cJ cR ad adK adV N) (q_A (gM D cI cJ cR ad adK adV N) s.heap.size) s σ H locs → lv_has ls 6 [(0, .ref (ad k)), (1, .int v1), (2, .int v2)] → fX9_seam_c4 k n v1 v2 σ = some out → W p l e { frames := 2, cells := 0, slots := 0, locals := 46 } s m args below meth c H locs 0 0 (MQ below (q_Ri (gM D cI cJ cR ad adK adV N) (q_A (gM D cI cJ cR ad adK adV N) s.heap.size) out) args s 0 0 (q_A (gM D cI cJ cR ad adK adV N) s.heap.size)) (F0 m 4 ls []) := by
  obtain ⟨hx, hb, hml, hown, hts⟩ := id C0
  intro n
  induction n with
  | zero =>
    intro v1 v2 σ H locs ls  hw hl h
    cases (show (none : Option (Int32 × q_M)) = some out from h)
  | succ n hrec4 =>
    intro v1 v2 σ H locs ls  hw hl h
    replace h : fX9_seam_c4b k (fX9_seam_c4 k n) v1 v2 σ = some out := h
    unfold fX9_seam_c4b at h
    refine lv_iload_n hx hb dX9_seam_4 rfl (lv_at hl 2 rfl) ?_
    refine lv_aload_n hx hb dX9_seam_5 rfl (lv_at hl 0 rfl) ?_
    obtain ⟨o1, hco1, h⟩ := q_bind h
    refine q_calli hw (va_runV (As := []) (rest := [.int v2]) C0 (kX9_many hk hco1 _) (cwV 0 hts gX9_seam_X9_many rfl rfl rfl eX9_many ⟨(Nat.le_of_ble_eq_true rfl), (Nat.le_of_ble_eq_true rfl)⟩) ⟨q_blind, q_recv hw (mN_0 hk) (mE_0 hk) rfl, q_pre hw⟩ rfl rfl hl.1 rfl (lv_room (Nat.le_of_ble_eq_true rfl)) dX9_seam_6 ⟨Nat.zero_le _, Nat.zero_le _⟩) (fun H locs hw => ?_)
    refine lv_icmp_ge (tgt := 116) hx hb dX9_seam_9 (by decide) (fun c2 => ?_) (fun c2 => ?_)
    · replace h := q_t h c2
      refine lv_iload_n hx hb dX9_seam_116 rfl (lv_at hl 1 rfl) ?_
      exact q_iret h C0 hr hlk hw dX9_seam_117
    · replace h := q_f h c2
      refine lv_iconst (v := (0 : Int32)) hx hb dX9_seam_12 (by decide) ?_
      refine lv_istore_n (lv' := [(3, .int (0 : Int32)), (0, .ref (ad k)), (1, .int v1), (2, .int v2)]) hx hb dX9_seam_13 rfl hl (by decide) rfl (fun ls hl => ?_)
      exact tX9_seam_c14 hk C0 hr hlk hrec4 q_FU v1 v2 (0 : Int32) o1.2 _ _ _ hw (lv_sub hl [1, 2, 3, 0] rfl) h
set_option maxHeartbeats 4000000 in
set_option maxRecDepth 100000 in
theorem kX9_seam {k : Nat} (hk : mB N k) {σ : q_M} {out : Int32 × q_M} (h : fX9_seam k σ = some out) : q_Mi l (gM D cI cJ cR ad adK adV N) yX9_seam wsX9_seam { frames := 2, cells := 0, slots := 0, locals := 46 } [.ref (ad k)] σ out := by
  refine q_Mi_of (cc := cX9_seam) (maxL := 6) (ret := (some .int)) (by decide) rfl (Nat.le_of_ble_eq_true rfl) ?_
  intro p e s m below meth c ls C0 hr hlk hl hw
  obtain ⟨hx, hb, hml, hown, hts⟩ := id C0
  replace hl : lv_has ls 6 [(0, .ref (ad k))] := hl
  unfold fX9_seam at h
  refine lv_iconst (v := (0 : Int32)) hx hb dX9_seam_0 (by decide) ?_
  refine lv_istore_n (lv' := [(1, .int (0 : Int32)), (0, .ref (ad k))]) hx hb dX9_seam_1 rfl hl (by decide) rfl (fun ls hl => ?_)
  refine lv_iconst (v := (0 : Int32)) hx hb dX9_seam_2 (by decide) ?_
  refine lv_istore_n (lv' := [(2, .int (0 : Int32)), (1, .int (0 : Int32)), (0, .ref (ad k))]) hx hb dX9_seam_3 rfl hl (by decide) rfl (fun ls hl => ?_)
  exact tX9_seam_c4 hk C0 hr hlk q_FU (0 : Int32) (0 : Int32) σ _ _ _ hw (lv_sub hl [2, 1, 0] rfl) h
-- X9_findParts findParts()I
theorem iX9_findParts_X9 : ∀ w ∈ wsX90, w ∈ wsX9_findParts := by decide +kernel
set_option maxHeartbeats 4000000 in
set_option maxRecDepth 100000 in
theorem tX9_findParts_c34 {k : Nat} {rec10 : Int64 → Int32 → Int32 → q_M → Option (Int32 × q_M)} (hk : mB N k) (C0 : CallFix p m c cX9_findParts 8 s args wsX9_findParts RX9) (hr : meth.sig.returnType = (some .int)) (hlk : meth.locks = false) {out : Int32 × q_M} (hrec10 : ∀ (v1 : Int64) (v3 : Int32) (v4 : Int32) (σ : q_M) (H : Heap) (locs : List Loc) (ls : Array Slot), q_H (gM D cI cJ cR ad adK adV N) (q_A (gM D cI cJ cR ad adK adV N) s.heap.size) s σ H locs → lv_has ls 8 [(0, .ref (ad k)), (1, .long v1), (3, .int v3), (4, .int v4)] → rec10 v1 v3 v4 σ = some out → W p l e { frames := 3, cells := 0, slots := 0, locals := 76 } s m args below meth c H locs 0 0 (MQ below (q_Ri (gM D cI cJ cR ad adK adV N) (q_A (gM D cI cJ cR ad adK adV N) s.heap.size) out) args s 0 0 (q_A (gM D cI cJ cR ad adK adV N) s.heap.size)) (F0 m 10 ls [])) : ∀ n : Nat, ∀ (v1 : Int64) (v3 : Int32) (v4 : Int32) (v5 : Int64) (v7 : Int32) (σ : q_M) (H : Heap) (locs : List Loc) (ls : Array Slot), q_H (gM D cI cJ cR ad adK adV N) (q_A (gM D cI cJ cR ad adK adV N) s.heap.size) s σ H locs → lv_has ls 8 [(0, .ref (ad k)), (1, .long v1), (3, .int v3), (4, .int v4), (5, .long v5), (7, .int v7)] → fX9_findParts_c34 k rec10 n v1 v3 v4 v5 v7 σ = some out → W p l e { frames := 3, cells := 0, slots := 0, locals := 76 } s m args below meth c H locs 0 0 (MQ below (q_Ri (gM D cI cJ cR ad adK adV N) (q_A (gM D cI cJ cR ad adK adV N) s.heap.size) out) args s 0 0 (q_A (gM D cI cJ cR ad adK adV N) s.heap.size)) (F0 m 34 ls []) := by
  obtain ⟨hx, hb, hml, hown, hts⟩ := id C0
  intro n
  induction n with
  | zero =>
    intro v1 v3 v4 v5 v7 σ H locs ls  hw hl h
    cases (show (none : Option (Int32 × q_M)) = some out from h)
  | succ n hrec34 =>
    intro v1 v3 v4 v5 v7 σ H locs ls  hw hl h
    replace h : fX9_findParts_c34b k rec10 (fX9_findParts_c34 k rec10 n) v1 v3 v4 v5 v7 σ = some out := h
    unfold fX9_findParts_c34b at h
    refine lv_iload hx hb dX9_findParts_34 (lv_at hl 5 rfl) ?_
    refine lv_aload_n hx hb dX9_findParts_36 rfl (lv_at hl 0 rfl) ?_
    obtain ⟨o1, hco1, h⟩ := q_bind h
    refine q_calli hw (va_runV (As := []) (rest := [.int v7]) C0 (kX9_many hk hco1 _) (cwV 0 hts gX9_findParts_X9_many rfl rfl rfl eX9_many ⟨(Nat.le_of_ble_eq_true rfl), (Nat.le_of_ble_eq_true rfl)⟩) ⟨q_blind, q_recv hw (mN_0 hk) (mE_0 hk) rfl, q_pre hw⟩ rfl rfl hl.1 rfl (lv_room (Nat.le_of_ble_eq_true rfl)) dX9_findParts_37 ⟨Nat.zero_le _, Nat.zero_le _⟩) (fun H locs hw => ?_)
    refine lv_icmp_ge (tgt := 91) hx hb dX9_findParts_40 (by decide) (fun c2 => ?_) (fun c2 => ?_)
    · replace h := q_t h c2
      refine lv_aload_n hx hb dX9_findParts_91 rfl (lv_at hl 0 rfl) ?_
      refine gt_X9_34 C0 hw hk iX9_findParts_X9 (by decide +kernel) dX9_findParts_92 ?_
      refine lv_iload_n hx hb dX9_findParts_95 rfl (lv_at hl 2 rfl) ?_
      refine lv_aload_n hx hb dX9_findParts_96 rfl (lv_at hl 0 rfl) ?_
      refine lv_iload hx hb dX9_findParts_97 (lv_at hl 3 rfl) ?_
      refine lv_lload hx hb dX9_findParts_99 (lv_at hl 4 rfl) ?_
      obtain ⟨o3, hco3, h⟩ := q_bind h
      refine q_calll hw (va_runV (As := [.int v4, .long v5]) (rest := [.int v3, .ref (ad (k + 18))]) C0 (kX9_hang hk hco3 _) (cwV 2 hts gX9_findParts_X9_hang rfl rfl rfl eX9_hang ⟨(Nat.le_of_ble_eq_true rfl), (Nat.le_of_ble_eq_true rfl)⟩) ⟨q_blind, q_recv hw (mN_0 hk) (mE_0 hk) rfl, q_pre hw⟩ rfl rfl hl.1 rfl (lv_room (Nat.le_of_ble_eq_true rfl)) dX9_findParts_101 ⟨Nat.zero_le _, Nat.zero_le _⟩) (fun H locs hw => ?_)
      obtain ⟨b4, h⟩ := q_if h
      refine q_last (t0 := 1) C0 hw (mN_18 hk) (mE_18 hk) rfl b4 dX9_findParts_104 (fun σ5 H locs e_σ5 hw => ?_)
      replace h := q_let_at e_σ5 h
      refine lv_lload_n hx hb dX9_findParts_105 rfl (lv_at hl 1 rfl) ?_
      refine lv_aload_n hx hb dX9_findParts_106 rfl (lv_at hl 0 rfl) ?_
      refine gt_X9_34 C0 hw hk iX9_findParts_X9 (by decide +kernel) dX9_findParts_107 ?_
      refine lv_iload_n hx hb dX9_findParts_110 rfl (lv_at hl 2 rfl) ?_
      obtain ⟨b6, h⟩ := q_if h
      refine q_lald (t0 := 1) C0 hw (mN_18 hk) (mE_18 hk) rfl b6 dX9_findParts_111 ?_
      refine lv_ldc2 (v := (-1 : Int64)) hx hb hown (hts (.constantLong RX9 100 (-1)) (by decide +kernel)) dX9_findParts_112 ?_
      refine lv_lxor hx hb dX9_findParts_115 ?_
      refine lv_land hx hb dX9_findParts_116 ?_
      refine lv_topl (fun x7 e_x7 => ?_)
      replace h := q_let_at e_x7 h
      refine lv_lstore_n (lv' := [(1, .long x7), (0, .ref (ad k)), (3, .int v3), (4, .int v4), (5, .long v5), (7, .int v7)]) hx hb dX9_findParts_117 rfl hl (by decide) rfl (fun ls hl => ?_)
      refine lv_iinc (v := (v3 + (1 : Int32))) (lv' := [(3, .int (v3 + (1 : Int32))), (1, .long x7), (0, .ref (ad k)), (4, .int v4), (5, .long v5), (7, .int v7)]) hx hb dX9_findParts_118 hl (k := 2) rfl rfl (by decide) rfl (fun ls hl => ?_)
      refine lv_iinc (v := (v4 + (1 : Int32))) (lv' := [(4, .int (v4 + (1 : Int32))), (3, .int (v3 + (1 : Int32))), (1, .long x7), (0, .ref (ad k)), (5, .long v5), (7, .int v7)]) hx hb dX9_findParts_121 hl (k := 3) rfl rfl (by decide) rfl (fun ls hl => ?_)
      refine lv_goto (tgt := 10) hx hb dX9_findParts_124 (by decide) ?_
      exact hrec10 x7 (v3 + (1 : Int32)) (v4 + (1 : Int32)) σ5 _ _ _ hw (lv_sub hl [3, 2, 1, 0] rfl) h
    · replace h := q_f h c2
      refine lv_lload hx hb dX9_findParts_43 (lv_at hl 4 rfl) ?_
      refine lv_aload_n hx hb dX9_findParts_45 rfl (lv_at hl 0 rfl) ?_
      refine gt_X9_33 C0 hw hk iX9_findParts_X9 (by decide +kernel) dX9_findParts_46 ?_
      refine lv_iload hx hb dX9_findParts_49 (lv_at hl 5 rfl) ?_
      obtain ⟨b8, h⟩ := q_if h
      refine q_iald (t0 := 0) C0 hw (mN_17 hk) (mE_17 hk) rfl b8 dX9_findParts_51 ?_
      refine lv_aload_n hx hb dX9_findParts_52 rfl (lv_at hl 0 rfl) ?_
      refine gt_X9_33 C0 hw hk iX9_findParts_X9 (by decide +kernel) dX9_findParts_53 ?_
      refine lv_iload hx hb dX9_findParts_56 (lv_at hl 3 rfl) ?_
      obtain ⟨b9, h⟩ := q_if h
      refine q_iald (t0 := 0) C0 hw (mN_17 hk) (mE_17 hk) rfl b9 dX9_findParts_58 ?_
      refine lv_icmp_ne (tgt := 81) hx hb dX9_findParts_59 (by decide) (fun c10 => ?_) (fun c10 => ?_)
      · replace h := q_f h c10
        refine lv_lconst (v := (0 : Int64)) hx hb dX9_findParts_81 (by decide) ?_
        refine lv_lor hx hb dX9_findParts_82 ?_
        refine lv_lstore (lv' := [(5, .long (v5 ||| (0 : Int64))), (0, .ref (ad k)), (1, .long v1), (3, .int v3), (4, .int v4), (7, .int v7)]) hx hb dX9_findParts_83 hl (by decide) rfl (fun ls hl => ?_)
        refine lv_iinc (v := (v7 + (1 : Int32))) (lv' := [(7, .int (v7 + (1 : Int32))), (5, .long (v5 ||| (0 : Int64))), (0, .ref (ad k)), (1, .long v1), (3, .int v3), (4, .int v4)]) hx hb dX9_findParts_85 hl (k := 5) rfl rfl (by decide) rfl (fun ls hl => ?_)
        refine lv_goto (tgt := 34) hx hb dX9_findParts_88 (by decide) ?_
        exact hrec34 v1 v3 v4 (v5 ||| (0 : Int64)) (v7 + (1 : Int32)) o1.2 _ _ _ hw (lv_sub hl [2, 3, 4, 5, 1, 0] rfl) h
      · replace h := q_t h c10
        refine lv_aload_n hx hb dX9_findParts_62 rfl (lv_at hl 0 rfl) ?_
        obtain ⟨o11, hco11, h⟩ := q_bind h
        refine q_calll hw (va_runV (As := []) (rest := [.long v5]) C0 (kX9_empty hk hco11 _) (cwV 0 hts gX9_findParts_X9_empty rfl rfl rfl eX9_empty ⟨(Nat.le_of_ble_eq_true rfl), (Nat.le_of_ble_eq_true rfl)⟩) ⟨q_blind, q_recv hw (mN_0 hk) (mE_0 hk) rfl, q_pre hw⟩ rfl rfl hl.1 rfl (lv_room (Nat.le_of_ble_eq_true rfl)) dX9_findParts_63 ⟨Nat.zero_le _, Nat.zero_le _⟩) (fun H locs hw => ?_)
        refine lv_iload hx hb dX9_findParts_66 (lv_at hl 5 rfl) ?_
        obtain ⟨o12, hco12, h⟩ := q_bind h
        refine q_calli hw (va_runS (As := [.long o11.1, .int v7]) (rest := [.long v5]) C0 (kX9_has hco12 _) (va_cwS 2 hts gX9_findParts_X9_has rfl rfl rfl eX9_has ⟨(Nat.le_of_ble_eq_true rfl), (Nat.le_of_ble_eq_true rfl)⟩) ⟨q_blind, q_pre hw⟩ rfl rfl hl.1 rfl (lv_room (Nat.le_of_ble_eq_true rfl)) dX9_findParts_68 ⟨Nat.zero_le _, Nat.zero_le _⟩) (fun H locs hw => ?_)
        refine lv_if_eq (tgt := 81) hx hb dX9_findParts_71 (by decide) (fun c13 => ?_) (fun c13 => ?_)
        · replace h := q_t h c13
          refine lv_lconst (v := (0 : Int64)) hx hb dX9_findParts_81 (by decide) ?_
          refine lv_lor hx hb dX9_findParts_82 ?_
          refine lv_lstore (lv' := [(5, .long (v5 ||| (0 : Int64))), (0, .ref (ad k)), (1, .long v1), (3, .int v3), (4, .int v4), (7, .int v7)]) hx hb dX9_findParts_83 hl (by decide) rfl (fun ls hl => ?_)
          refine lv_iinc (v := (v7 + (1 : Int32))) (lv' := [(7, .int (v7 + (1 : Int32))), (5, .long (v5 ||| (0 : Int64))), (0, .ref (ad k)), (1, .long v1), (3, .int v3), (4, .int v4)]) hx hb dX9_findParts_85 hl (k := 5) rfl rfl (by decide) rfl (fun ls hl => ?_)
          refine lv_goto (tgt := 34) hx hb dX9_findParts_88 (by decide) ?_
          exact hrec34 v1 v3 v4 (v5 ||| (0 : Int64)) (v7 + (1 : Int32)) o12.2 _ _ _ hw (lv_sub hl [2, 3, 4, 5, 1, 0] rfl) h
        · replace h := q_f h c13
          refine lv_lconst (v := (1 : Int64)) hx hb dX9_findParts_74 (by decide) ?_
          refine lv_iload hx hb dX9_findParts_75 (lv_at hl 5 rfl) ?_
          refine lv_lshl (v := (q_shl (1 : Int64) v7)) hx hb dX9_findParts_77 rfl ?_
          refine lv_goto (tgt := 82) hx hb dX9_findParts_78 (by decide) ?_
          refine lv_lor hx hb dX9_findParts_82 ?_
          refine lv_topl (fun x14 e_x14 => ?_)
          replace h := q_let_at e_x14 h
          refine lv_lstore (lv' := [(5, .long x14), (0, .ref (ad k)), (1, .long v1), (3, .int v3), (4, .int v4), (7, .int v7)]) hx hb dX9_findParts_83 hl (by decide) rfl (fun ls hl => ?_)
          refine lv_iinc (v := (v7 + (1 : Int32))) (lv' := [(7, .int (v7 + (1 : Int32))), (5, .long x14), (0, .ref (ad k)), (1, .long v1), (3, .int v3), (4, .int v4)]) hx hb dX9_findParts_85 hl (k := 5) rfl rfl (by decide) rfl (fun ls hl => ?_)
          refine lv_goto (tgt := 34) hx hb dX9_findParts_88 (by decide) ?_
          exact hrec34 v1 v3 v4 x14 (v7 + (1 : Int32)) o12.2 _ _ _ hw (lv_sub hl [2, 3, 4, 5, 1, 0] rfl) h
set_option maxHeartbeats 4000000 in
set_option maxRecDepth 100000 in
theorem tX9_findParts_c10 {k : Nat} (hk : mB N k) (C0 : CallFix p m c cX9_findParts 8 s args wsX9_findParts RX9) (hr : meth.sig.returnType = (some .int)) (hlk : meth.locks = false) {out : Int32 × q_M}  : ∀ n : Nat, ∀ (v1 : Int64) (v3 : Int32) (v4 : Int32) (σ : q_M) (H : Heap) (locs : List Loc) (ls : Array Slot), q_H (gM D cI cJ cR ad adK adV N) (q_A (gM D cI cJ cR ad adK adV N) s.heap.size) s σ H locs → lv_has ls 8 [(0, .ref (ad k)), (1, .long v1), (3, .int v3), (4, .int v4)] → fX9_findParts_c10 k n v1 v3 v4 σ = some out → W p l e { frames := 3, cells := 0, slots := 0, locals := 76 } s m args below meth c H locs 0 0 (MQ below (q_Ri (gM D cI cJ cR ad adK adV N) (q_A (gM D cI cJ cR ad adK adV N) s.heap.size) out) args s 0 0 (q_A (gM D cI cJ cR ad adK adV N) s.heap.size)) (F0 m 10 ls []) := by
  obtain ⟨hx, hb, hml, hown, hts⟩ := id C0
  intro n
  induction n with
  | zero =>
    intro v1 v3 v4 σ H locs ls  hw hl h
    cases (show (none : Option (Int32 × q_M)) = some out from h)
  | succ n hrec10 =>
    intro v1 v3 v4 σ H locs ls  hw hl h
    replace h : fX9_findParts_c10b k (fX9_findParts_c10 k n) v1 v3 v4 σ = some out := h
    unfold fX9_findParts_c10b at h
    refine lv_iload hx hb dX9_findParts_10 (lv_at hl 3 rfl) ?_
    refine lv_aload_n hx hb dX9_findParts_12 rfl (lv_at hl 0 rfl) ?_
    obtain ⟨o1, hco1, h⟩ := q_bind h
    refine q_calli hw (va_runV (As := []) (rest := [.int v4]) C0 (kX9_many hk hco1 _) (cwV 0 hts gX9_findParts_X9_many rfl rfl rfl eX9_many ⟨(Nat.le_of_ble_eq_true rfl), (Nat.le_of_ble_eq_true rfl)⟩) ⟨q_blind, q_recv hw (mN_0 hk) (mE_0 hk) rfl, q_pre hw⟩ rfl rfl hl.1 rfl (lv_room (Nat.le_of_ble_eq_true rfl)) dX9_findParts_13 ⟨Nat.zero_le _, Nat.zero_le _⟩) (fun H locs hw => ?_)
    refine lv_icmp_ge (tgt := 127) hx hb dX9_findParts_16 (by decide) (fun c2 => ?_) (fun c2 => ?_)
    · replace h := q_t h c2
      refine lv_iload_n hx hb dX9_findParts_127 rfl (lv_at hl 2 rfl) ?_
      exact q_iret h C0 hr hlk hw dX9_findParts_128
    · replace h := q_f h c2
      refine lv_lload_n hx hb dX9_findParts_19 rfl (lv_at hl 1 rfl) ?_
      refine lv_iload hx hb dX9_findParts_20 (lv_at hl 3 rfl) ?_
      obtain ⟨o3, hco3, h⟩ := q_bind h
      refine q_calli hw (va_runS (As := [.long v1, .int v4]) (rest := []) C0 (kX9_has hco3 _) (va_cwS 2 hts gX9_findParts_X9_has rfl rfl rfl eX9_has ⟨(Nat.le_of_ble_eq_true rfl), (Nat.le_of_ble_eq_true rfl)⟩) ⟨q_blind, q_pre hw⟩ rfl rfl hl.1 rfl (lv_room (Nat.le_of_ble_eq_true rfl)) dX9_findParts_22 ⟨Nat.zero_le _, Nat.zero_le _⟩) (fun H locs hw => ?_)
      refine lv_if_eq (tgt := 121) hx hb dX9_findParts_25 (by decide) (fun c4 => ?_) (fun c4 => ?_)
      · replace h := q_t h c4
        refine lv_iinc (v := (v4 + (1 : Int32))) (lv' := [(4, .int (v4 + (1 : Int32))), (0, .ref (ad k)), (1, .long v1), (3, .int v3)]) hx hb dX9_findParts_121 hl (k := 3) rfl rfl (by decide) rfl (fun ls hl => ?_)
        refine lv_goto (tgt := 10) hx hb dX9_findParts_124 (by decide) ?_
        exact hrec10 v1 v3 (v4 + (1 : Int32)) o3.2 _ _ _ hw (lv_sub hl [1, 2, 3, 0] rfl) h
      · replace h := q_f h c4
        refine lv_lconst (v := (0 : Int64)) hx hb dX9_findParts_28 (by decide) ?_
        refine lv_lstore (lv' := [(5, .long (0 : Int64)), (0, .ref (ad k)), (1, .long v1), (3, .int v3), (4, .int v4)]) hx hb dX9_findParts_29 hl (by decide) rfl (fun ls hl => ?_)
        refine lv_iconst (v := (0 : Int32)) hx hb dX9_findParts_31 (by decide) ?_
        refine lv_istore (lv' := [(7, .int (0 : Int32)), (5, .long (0 : Int64)), (0, .ref (ad k)), (1, .long v1), (3, .int v3), (4, .int v4)]) hx hb dX9_findParts_32 hl (by decide) rfl (fun ls hl => ?_)
        exact tX9_findParts_c34 hk C0 hr hlk hrec10 q_FU v1 v3 v4 (0 : Int64) (0 : Int32) o3.2 _ _ _ hw (lv_sub hl [2, 3, 4, 5, 1, 0] rfl) h
set_option maxHeartbeats 4000000 in
set_option maxRecDepth 100000 in
theorem kX9_findParts {k : Nat} (hk : mB N k) {σ : q_M} {out : Int32 × q_M} (h : fX9_findParts k σ = some out) : q_Mi l (gM D cI cJ cR ad adK adV N) yX9_findParts wsX9_findParts { frames := 3, cells := 0, slots := 0, locals := 76 } [.ref (ad k)] σ out := by
  refine q_Mi_of (cc := cX9_findParts) (maxL := 8) (ret := (some .int)) (by decide) rfl (Nat.le_of_ble_eq_true rfl) ?_
  intro p e s m below meth c ls C0 hr hlk hl hw
  obtain ⟨hx, hb, hml, hown, hts⟩ := id C0
  replace hl : lv_has ls 8 [(0, .ref (ad k))] := hl
  unfold fX9_findParts at h
  refine lv_aload_n hx hb dX9_findParts_0 rfl (lv_at hl 0 rfl) ?_
  obtain ⟨o1, hco1, h⟩ := q_bind h
  refine q_calll hw (va_runV (As := []) (rest := []) C0 (kX9_empty hk hco1 _) (cwV 0 hts gX9_findParts_X9_empty rfl rfl rfl eX9_empty ⟨(Nat.le_of_ble_eq_true rfl), (Nat.le_of_ble_eq_true rfl)⟩) ⟨q_blind, q_recv hw (mN_0 hk) (mE_0 hk) rfl, q_pre hw⟩ rfl rfl hl.1 rfl (lv_room (Nat.le_of_ble_eq_true rfl)) dX9_findParts_1 ⟨Nat.zero_le _, Nat.zero_le _⟩) (fun H locs hw => ?_)
  refine lv_lstore_n (lv' := [(1, .long o1.1), (0, .ref (ad k))]) hx hb dX9_findParts_4 rfl hl (by decide) rfl (fun ls hl => ?_)
  refine lv_iconst (v := (0 : Int32)) hx hb dX9_findParts_5 (by decide) ?_
  refine lv_istore_n (lv' := [(3, .int (0 : Int32)), (1, .long o1.1), (0, .ref (ad k))]) hx hb dX9_findParts_6 rfl hl (by decide) rfl (fun ls hl => ?_)
  refine lv_iconst (v := (0 : Int32)) hx hb dX9_findParts_7 (by decide) ?_
  refine lv_istore (lv' := [(4, .int (0 : Int32)), (3, .int (0 : Int32)), (1, .long o1.1), (0, .ref (ad k))]) hx hb dX9_findParts_8 hl (by decide) rfl (fun ls hl => ?_)
  exact tX9_findParts_c10 hk C0 hr hlk q_FU o1.1 (0 : Int32) (0 : Int32) o1.2 _ _ _ hw (lv_sub hl [3, 2, 1, 0] rfl) h
-- X9_parted parted(II)I
theorem iX9_parted_X9 : ∀ w ∈ wsX90, w ∈ wsX9_parted := by decide +kernel
theorem eX9_findParts : yX9_findParts.cls = RX9 ∧ yX9_findParts.cls ≠ "java/lang/invoke/MethodHandle" ∧ yX9_findParts.cls ≠ "java/lang/invoke/VarHandle" ∧ (parseMethodDescriptor yX9_findParts.desc).map (fun d => d.parameters.length) = some 0 := by decide +kernel
theorem eX9_findWays : yX9_findWays.cls = RX9 ∧ yX9_findWays.cls ≠ "java/lang/invoke/MethodHandle" ∧ yX9_findWays.cls ≠ "java/lang/invoke/VarHandle" ∧ (parseMethodDescriptor yX9_findWays.desc).map (fun d => d.parameters.length) = some 1 := by decide +kernel
theorem eX9_seam : yX9_seam.cls = RX9 ∧ yX9_seam.cls ≠ "java/lang/invoke/MethodHandle" ∧ yX9_seam.cls ≠ "java/lang/invoke/VarHandle" ∧ (parseMethodDescriptor yX9_seam.desc).map (fun d => d.parameters.length) = some 0 := by decide +kernel
set_option maxHeartbeats 4000000 in
set_option maxRecDepth 100000 in
theorem kX9_parted {k : Nat} {p1 : Int32} {p2 : Int32} (hk : mB N k) {σ : q_M} {out : Int32 × q_M} (h : fX9_parted k p1 p2 σ = some out) : q_Mi l (gM D cI cJ cR ad adK adV N) yX9_parted wsX9_parted { frames := 4, cells := 0, slots := 0, locals := 103 } [.ref (ad k), .int p1, .int p2] σ out := by
  refine q_Mi_of (cc := cX9_parted) (maxL := 3) (ret := (some .int)) (by decide) rfl (Nat.le_of_ble_eq_true rfl) ?_
  intro p e s m below meth c ls C0 hr hlk hl hw
  obtain ⟨hx, hb, hml, hown, hts⟩ := id C0
  replace hl : lv_has ls 3 [(0, .ref (ad k)), (1, .int p1), (2, .int p2)] := hl
  unfold fX9_parted at h
  refine lv_iload_n hx hb dX9_parted_0 rfl (lv_at hl 1 rfl) ?_
  refine lv_i2l hx hb dX9_parted_1 rfl ?_
  refine lv_lconst (v := (0 : Int64)) hx hb dX9_parted_2 (by decide) ?_
  refine lv_ldc2 (v := (63 : Int64)) hx hb hown (hts (.constantLong RX9 323 (63)) (by decide +kernel)) dX9_parted_3 ?_
  obtain ⟨o1, hco1, h⟩ := q_bind h
  refine q_calli hw (va_runS (As := [.long p1.toInt64, .long (0 : Int64), .long (63 : Int64)]) (rest := []) C0 (kX9_in hco1 _) (va_cwS 3 hts gX9_parted_X9_in rfl rfl rfl eX9_in ⟨(Nat.le_of_ble_eq_true rfl), (Nat.le_of_ble_eq_true rfl)⟩) ⟨q_blind, q_pre hw⟩ rfl rfl hl.1 rfl (lv_room (Nat.le_of_ble_eq_true rfl)) dX9_parted_6 ⟨Nat.zero_le _, Nat.zero_le _⟩) (fun H locs hw => ?_)
  refine lv_if_eq (tgt := 22) hx hb dX9_parted_9 (by decide) (fun c2 => ?_) (fun c2 => ?_)
  · replace h := q_t h c2
    refine lv_aload_n hx hb dX9_parted_22 rfl (lv_at hl 0 rfl) ?_
    refine lv_bipush (v := (-2 : Int32)) hx hb dX9_parted_23 (by decide) ?_
    obtain ⟨o3, hco3, h⟩ := q_bind h
    refine q_calli hw (va_runV (As := [.int (-2 : Int32)]) (rest := []) C0 (kX9_refuse hk hco3 _) (cwV 1 hts gX9_parted_X9_refuse rfl rfl rfl eX9_refuse ⟨(Nat.le_of_ble_eq_true rfl), (Nat.le_of_ble_eq_true rfl)⟩) ⟨q_blind, q_recv hw (mN_0 hk) (mE_0 hk) rfl, q_pre hw⟩ rfl rfl hl.1 rfl (lv_room (Nat.le_of_ble_eq_true rfl)) dX9_parted_25 ⟨Nat.zero_le _, Nat.zero_le _⟩) (fun H locs hw => ?_)
    exact q_iret h C0 hr hlk hw dX9_parted_28
  · replace h := q_f h c2
    refine lv_iload_n hx hb dX9_parted_12 rfl (lv_at hl 2 rfl) ?_
    refine lv_i2l hx hb dX9_parted_13 rfl ?_
    refine lv_lconst (v := (0 : Int64)) hx hb dX9_parted_14 (by decide) ?_
    refine lv_lconst (v := (1 : Int64)) hx hb dX9_parted_15 (by decide) ?_
    obtain ⟨o4, hco4, h⟩ := q_bind h
    refine q_calli hw (va_runS (As := [.long p2.toInt64, .long (0 : Int64), .long (1 : Int64)]) (rest := []) C0 (kX9_in hco4 _) (va_cwS 3 hts gX9_parted_X9_in rfl rfl rfl eX9_in ⟨(Nat.le_of_ble_eq_true rfl), (Nat.le_of_ble_eq_true rfl)⟩) ⟨q_blind, q_pre hw⟩ rfl rfl hl.1 rfl (lv_room (Nat.le_of_ble_eq_true rfl)) dX9_parted_16 ⟨Nat.zero_le _, Nat.zero_le _⟩) (fun H locs hw => ?_)
    refine lv_if_ne (tgt := 29) hx hb dX9_parted_19 (by decide) (fun c5 => ?_) (fun c5 => ?_)
    · replace h := q_f h c5
      refine lv_aload_n hx hb dX9_parted_29 rfl (lv_at hl 0 rfl) ?_
      refine lv_aload_n hx hb dX9_parted_30 rfl (lv_at hl 0 rfl) ?_
      refine gt_X9_12 C0 hw hk iX9_parted_X9 (by decide +kernel) dX9_parted_31 ?_
      obtain ⟨o6, hco6, h⟩ := q_bind h
      refine q_callv hw (va_runV (As := [.long (o4.2.2 k 12)]) (rest := []) C0 (kX9_findFree hk hco6 _) (cwV 1 hts gX9_parted_X9_findFree rfl rfl rfl eX9_findFree ⟨(Nat.le_of_ble_eq_true rfl), (Nat.le_of_ble_eq_true rfl)⟩) ⟨q_blind, q_recv hw (mN_0 hk) (mE_0 hk) rfl, q_pre hw⟩ rfl rfl hl.1 rfl (lv_room (Nat.le_of_ble_eq_true rfl)) dX9_parted_34 ⟨Nat.zero_le _, Nat.zero_le _⟩) (fun H locs hw => ?_)
      refine lv_aload_n hx hb dX9_parted_37 rfl (lv_at hl 0 rfl) ?_
      refine lv_iload_n hx hb dX9_parted_38 rfl (lv_at hl 1 rfl) ?_
      obtain ⟨o7, hco7, h⟩ := q_bind h
      refine q_calli hw (va_runV (As := [.int p1]) (rest := []) C0 (kX9_doServe hk hco7 _) (cwV 1 hts gX9_parted_X9_doServe rfl rfl rfl eX9_doServe ⟨(Nat.le_of_ble_eq_true rfl), (Nat.le_of_ble_eq_true rfl)⟩) ⟨q_blind, q_recv hw (mN_0 hk) (mE_0 hk) rfl, q_pre hw⟩ rfl rfl hl.1 rfl (lv_room (Nat.le_of_ble_eq_true rfl)) dX9_parted_39 ⟨Nat.zero_le _, Nat.zero_le _⟩) (fun H locs hw => ?_)
      refine lv_if_ne (tgt := 52) hx hb dX9_parted_42 (by decide) (fun c8 => ?_) (fun c8 => ?_)
      · replace h := q_f h c8
        refine lv_aload_n hx hb dX9_parted_52 rfl (lv_at hl 0 rfl) ?_
        refine lv_iload_n hx hb dX9_parted_53 rfl (lv_at hl 1 rfl) ?_
        obtain ⟨o9, hco9, h⟩ := q_bind h
        refine q_callv hw (va_runV (As := [.int p1]) (rest := []) C0 (kX9_findWays hk hco9 _) (cwV 1 hts gX9_parted_X9_findWays rfl rfl rfl eX9_findWays ⟨(Nat.le_of_ble_eq_true rfl), (Nat.le_of_ble_eq_true rfl)⟩) ⟨q_blind, q_recv hw (mN_0 hk) (mE_0 hk) rfl, q_pre hw⟩ rfl rfl hl.1 rfl (lv_room (Nat.le_of_ble_eq_true rfl)) dX9_parted_54 ⟨Nat.zero_le _, Nat.zero_le _⟩) (fun H locs hw => ?_)
        refine lv_iload_n hx hb dX9_parted_57 rfl (lv_at hl 2 rfl) ?_
        refine lv_if_ne (tgt := 68) hx hb dX9_parted_58 (by decide) (fun c10 => ?_) (fun c10 => ?_)
        · replace h := q_f h c10
          refine lv_aload_n hx hb dX9_parted_68 rfl (lv_at hl 0 rfl) ?_
          obtain ⟨o11, hco11, h⟩ := q_bind h
          refine q_calli hw (va_runV (As := []) (rest := []) C0 (kX9_seam hk hco11 _) (cwV 0 hts gX9_parted_X9_seam rfl rfl rfl eX9_seam ⟨(Nat.le_of_ble_eq_true rfl), (Nat.le_of_ble_eq_true rfl)⟩) ⟨q_blind, q_recv hw (mN_0 hk) (mE_0 hk) rfl, q_pre hw⟩ rfl rfl hl.1 rfl (lv_room (Nat.le_of_ble_eq_true rfl)) dX9_parted_69 ⟨Nat.zero_le _, Nat.zero_le _⟩) (fun H locs hw => ?_)
          exact q_iret h C0 hr hlk hw dX9_parted_72
        · replace h := q_t h c10
          refine lv_aload_n hx hb dX9_parted_61 rfl (lv_at hl 0 rfl) ?_
          obtain ⟨o12, hco12, h⟩ := q_bind h
          refine q_calli hw (va_runV (As := []) (rest := []) C0 (kX9_findParts hk hco12 _) (cwV 0 hts gX9_parted_X9_findParts rfl rfl rfl eX9_findParts ⟨(Nat.le_of_ble_eq_true rfl), (Nat.le_of_ble_eq_true rfl)⟩) ⟨q_blind, q_recv hw (mN_0 hk) (mE_0 hk) rfl, q_pre hw⟩ rfl rfl hl.1 rfl (lv_room (Nat.le_of_ble_eq_true rfl)) dX9_parted_62 ⟨Nat.zero_le _, Nat.zero_le _⟩) (fun H locs hw => ?_)
          refine lv_goto (tgt := 72) hx hb dX9_parted_65 (by decide) ?_
          exact q_iret h C0 hr hlk hw dX9_parted_72
      · replace h := q_t h c8
        refine lv_aload_n hx hb dX9_parted_45 rfl (lv_at hl 0 rfl) ?_
        refine lv_bipush (v := (-5 : Int32)) hx hb dX9_parted_46 (by decide) ?_
        obtain ⟨o13, hco13, h⟩ := q_bind h
        refine q_calli hw (va_runV (As := [.int (-5 : Int32)]) (rest := []) C0 (kX9_refuse hk hco13 _) (cwV 1 hts gX9_parted_X9_refuse rfl rfl rfl eX9_refuse ⟨(Nat.le_of_ble_eq_true rfl), (Nat.le_of_ble_eq_true rfl)⟩) ⟨q_blind, q_recv hw (mN_0 hk) (mE_0 hk) rfl, q_pre hw⟩ rfl rfl hl.1 rfl (lv_room (Nat.le_of_ble_eq_true rfl)) dX9_parted_48 ⟨Nat.zero_le _, Nat.zero_le _⟩) (fun H locs hw => ?_)
        exact q_iret h C0 hr hlk hw dX9_parted_51
    · replace h := q_t h c5
      refine lv_aload_n hx hb dX9_parted_22 rfl (lv_at hl 0 rfl) ?_
      refine lv_bipush (v := (-2 : Int32)) hx hb dX9_parted_23 (by decide) ?_
      obtain ⟨o14, hco14, h⟩ := q_bind h
      refine q_calli hw (va_runV (As := [.int (-2 : Int32)]) (rest := []) C0 (kX9_refuse hk hco14 _) (cwV 1 hts gX9_parted_X9_refuse rfl rfl rfl eX9_refuse ⟨(Nat.le_of_ble_eq_true rfl), (Nat.le_of_ble_eq_true rfl)⟩) ⟨q_blind, q_recv hw (mN_0 hk) (mE_0 hk) rfl, q_pre hw⟩ rfl rfl hl.1 rfl (lv_room (Nat.le_of_ble_eq_true rfl)) dX9_parted_25 ⟨Nat.zero_le _, Nat.zero_le _⟩) (fun H locs hw => ?_)
      exact q_iret h C0 hr hlk hw dX9_parted_28
-- X9_hidden hidden()I
theorem iX9_hidden_X9 : ∀ w ∈ wsX90, w ∈ wsX9_hidden := by decide +kernel
set_option maxHeartbeats 4000000 in
set_option maxRecDepth 100000 in
theorem tX9_hidden_c14 {k : Nat} (hk : mB N k) (C0 : CallFix p m c cX9_hidden 5 s args wsX9_hidden RX9) (hr : meth.sig.returnType = (some .int)) (hlk : meth.locks = false) {out : Int32 × q_M}  : ∀ n : Nat, ∀ (v1 : Int32) (v2 : Int32) (v3 : Int32) (σ : q_M) (H : Heap) (locs : List Loc) (ls : Array Slot), q_H (gM D cI cJ cR ad adK adV N) (q_A (gM D cI cJ cR ad adK adV N) s.heap.size) s σ H locs → lv_has ls 5 [(0, .ref (ad k)), (1, .int v1), (2, .int v2), (3, .int v3)] → fX9_hidden_c14 k n v1 v2 v3 σ = some out → W p l e { frames := 4, cells := 0, slots := 0, locals := 96 } s m args below meth c H locs 0 0 (MQ below (q_Ri (gM D cI cJ cR ad adK adV N) (q_A (gM D cI cJ cR ad adK adV N) s.heap.size) out) args s 0 0 (q_A (gM D cI cJ cR ad adK adV N) s.heap.size)) (F0 m 14 ls []) := by
  obtain ⟨hx, hb, hml, hown, hts⟩ := id C0
  intro n
  induction n with
  | zero =>
    intro v1 v2 v3 σ H locs ls  hw hl h
    cases (show (none : Option (Int32 × q_M)) = some out from h)
  | succ n hrec14 =>
    intro v1 v2 v3 σ H locs ls  hw hl h
    replace h : fX9_hidden_c14b k (fX9_hidden_c14 k n) v1 v2 v3 σ = some out := h
    unfold fX9_hidden_c14b at h
    refine lv_iload_n hx hb dX9_hidden_14 rfl (lv_at hl 3 rfl) ?_
    refine lv_bipush (v := (64 : Int32)) hx hb dX9_hidden_15 (by decide) ?_
    refine lv_icmp_ge (tgt := 61) hx hb dX9_hidden_17 (by decide) (fun c1 => ?_) (fun c1 => ?_)
    · replace h := q_t h c1
      refine lv_iload_n hx hb dX9_hidden_61 rfl (lv_at hl 1 rfl) ?_
      refine lv_iconst (v := (-1 : Int32)) hx hb dX9_hidden_62 (by decide) ?_
      refine lv_icmp_ne (tgt := 75) hx hb dX9_hidden_63 (by decide) (fun c2 => ?_) (fun c2 => ?_)
      · replace h := q_f h c2
        refine lv_iload_n hx hb dX9_hidden_75 rfl (lv_at hl 1 rfl) ?_
        exact q_iret h C0 hr hlk hw dX9_hidden_76
      · replace h := q_t h c2
        refine lv_aload_n hx hb dX9_hidden_66 rfl (lv_at hl 0 rfl) ?_
        refine lv_bipush (v := (-5 : Int32)) hx hb dX9_hidden_67 (by decide) ?_
        obtain ⟨o3, hco3, h⟩ := q_bind h
        refine q_calli hw (va_runV (As := [.int (-5 : Int32)]) (rest := []) C0 (kX9_refuse hk hco3 _) (cwV 1 hts gX9_hidden_X9_refuse rfl rfl rfl eX9_refuse ⟨(Nat.le_of_ble_eq_true rfl), (Nat.le_of_ble_eq_true rfl)⟩) ⟨q_blind, q_recv hw (mN_0 hk) (mE_0 hk) rfl, q_pre hw⟩ rfl rfl hl.1 rfl (lv_room (Nat.le_of_ble_eq_true rfl)) dX9_hidden_69 ⟨Nat.zero_le _, Nat.zero_le _⟩) (fun H locs hw => ?_)
        refine lv_goto (tgt := 76) hx hb dX9_hidden_72 (by decide) ?_
        exact q_iret h C0 hr hlk hw dX9_hidden_76
    · replace h := q_f h c1
      refine lv_aload_n hx hb dX9_hidden_20 rfl (lv_at hl 0 rfl) ?_
      refine lv_iload_n hx hb dX9_hidden_21 rfl (lv_at hl 3 rfl) ?_
      obtain ⟨o4, hco4, h⟩ := q_bind h
      refine q_calli hw (va_runV (As := [.int v3]) (rest := []) C0 (kX9_doServe hk hco4 _) (cwV 1 hts gX9_hidden_X9_doServe rfl rfl rfl eX9_doServe ⟨(Nat.le_of_ble_eq_true rfl), (Nat.le_of_ble_eq_true rfl)⟩) ⟨q_blind, q_recv hw (mN_0 hk) (mE_0 hk) rfl, q_pre hw⟩ rfl rfl hl.1 rfl (lv_room (Nat.le_of_ble_eq_true rfl)) dX9_hidden_22 ⟨Nat.zero_le _, Nat.zero_le _⟩) (fun H locs hw => ?_)
      refine lv_if_eq (tgt := 55) hx hb dX9_hidden_25 (by decide) (fun c5 => ?_) (fun c5 => ?_)
      · replace h := q_t h c5
        refine lv_iinc (v := (v3 + (1 : Int32))) (lv' := [(3, .int (v3 + (1 : Int32))), (0, .ref (ad k)), (1, .int v1), (2, .int v2)]) hx hb dX9_hidden_55 hl (k := 3) rfl rfl (by decide) rfl (fun ls hl => ?_)
        refine lv_goto (tgt := 14) hx hb dX9_hidden_58 (by decide) ?_
        exact hrec14 v1 v2 (v3 + (1 : Int32)) o4.2 _ _ _ hw (lv_sub hl [1, 2, 3, 0] rfl) h
      · replace h := q_f h c5
        refine lv_aload_n hx hb dX9_hidden_28 rfl (lv_at hl 0 rfl) ?_
        refine lv_iload_n hx hb dX9_hidden_29 rfl (lv_at hl 3 rfl) ?_
        obtain ⟨o6, hco6, h⟩ := q_bind h
        refine q_callv hw (va_runV (As := [.int v3]) (rest := []) C0 (kX9_findWays hk hco6 _) (cwV 1 hts gX9_hidden_X9_findWays rfl rfl rfl eX9_findWays ⟨(Nat.le_of_ble_eq_true rfl), (Nat.le_of_ble_eq_true rfl)⟩) ⟨q_blind, q_recv hw (mN_0 hk) (mE_0 hk) rfl, q_pre hw⟩ rfl rfl hl.1 rfl (lv_room (Nat.le_of_ble_eq_true rfl)) dX9_hidden_30 ⟨Nat.zero_le _, Nat.zero_le _⟩) (fun H locs hw => ?_)
        refine lv_aload_n hx hb dX9_hidden_33 rfl (lv_at hl 0 rfl) ?_
        obtain ⟨o7, hco7, h⟩ := q_bind h
        refine q_calli hw (va_runV (As := []) (rest := []) C0 (kX9_seam hk hco7 _) (cwV 0 hts gX9_hidden_X9_seam rfl rfl rfl eX9_seam ⟨(Nat.le_of_ble_eq_true rfl), (Nat.le_of_ble_eq_true rfl)⟩) ⟨q_blind, q_recv hw (mN_0 hk) (mE_0 hk) rfl, q_pre hw⟩ rfl rfl hl.1 rfl (lv_room (Nat.le_of_ble_eq_true rfl)) dX9_hidden_34 ⟨Nat.zero_le _, Nat.zero_le _⟩) (fun H locs hw => ?_)
        refine lv_istore (lv' := [(4, .int o7.1), (0, .ref (ad k)), (1, .int v1), (2, .int v2), (3, .int v3)]) hx hb dX9_hidden_37 hl (by decide) rfl (fun ls hl => ?_)
        refine lv_iload_n hx hb dX9_hidden_39 rfl (lv_at hl 2 rfl) ?_
        refine lv_iconst (v := (-1 : Int32)) hx hb dX9_hidden_40 (by decide) ?_
        refine lv_icmp_eq (tgt := 50) hx hb dX9_hidden_41 (by decide) (fun c8 => ?_) (fun c8 => ?_)
        · replace h := q_t h c8
          refine lv_iload_n hx hb dX9_hidden_50 rfl (lv_at hl 4 rfl) ?_
          refine lv_istore_n (lv' := [(1, .int v3), (4, .int o7.1), (0, .ref (ad k)), (2, .int v2), (3, .int v3)]) hx hb dX9_hidden_51 rfl hl (by decide) rfl (fun ls hl => ?_)
          refine lv_iload hx hb dX9_hidden_52 (lv_at hl 1 rfl) ?_
          refine lv_istore_n (lv' := [(2, .int o7.1), (1, .int v3), (4, .int o7.1), (0, .ref (ad k)), (3, .int v3)]) hx hb dX9_hidden_54 rfl hl (by decide) rfl (fun ls hl => ?_)
          refine lv_iinc (v := (v3 + (1 : Int32))) (lv' := [(3, .int (v3 + (1 : Int32))), (2, .int o7.1), (1, .int v3), (4, .int o7.1), (0, .ref (ad k))]) hx hb dX9_hidden_55 hl (k := 4) rfl rfl (by decide) rfl (fun ls hl => ?_)
          refine lv_goto (tgt := 14) hx hb dX9_hidden_58 (by decide) ?_
          exact hrec14 v3 o7.1 (v3 + (1 : Int32)) o7.2 _ _ _ hw (lv_sub hl [4, 2, 1, 0] rfl) h
        · replace h := q_f h c8
          refine lv_iload hx hb dX9_hidden_44 (lv_at hl 0 rfl) ?_
          refine lv_iload_n hx hb dX9_hidden_46 rfl (lv_at hl 3 rfl) ?_
          refine lv_icmp_ge (tgt := 55) hx hb dX9_hidden_47 (by decide) (fun c9 => ?_) (fun c9 => ?_)
          · replace h := q_t h c9
            refine lv_iinc (v := (v3 + (1 : Int32))) (lv' := [(3, .int (v3 + (1 : Int32))), (4, .int o7.1), (0, .ref (ad k)), (1, .int v1), (2, .int v2)]) hx hb dX9_hidden_55 hl (k := 4) rfl rfl (by decide) rfl (fun ls hl => ?_)
            refine lv_goto (tgt := 14) hx hb dX9_hidden_58 (by decide) ?_
            exact hrec14 v1 v2 (v3 + (1 : Int32)) o7.2 _ _ _ hw (lv_sub hl [2, 3, 4, 0] rfl) h
          · replace h := q_f h c9
            refine lv_iload_n hx hb dX9_hidden_50 rfl (lv_at hl 4 rfl) ?_
            refine lv_istore_n (lv' := [(1, .int v3), (4, .int o7.1), (0, .ref (ad k)), (2, .int v2), (3, .int v3)]) hx hb dX9_hidden_51 rfl hl (by decide) rfl (fun ls hl => ?_)
            refine lv_iload hx hb dX9_hidden_52 (lv_at hl 1 rfl) ?_
            refine lv_istore_n (lv' := [(2, .int o7.1), (1, .int v3), (4, .int o7.1), (0, .ref (ad k)), (3, .int v3)]) hx hb dX9_hidden_54 rfl hl (by decide) rfl (fun ls hl => ?_)
            refine lv_iinc (v := (v3 + (1 : Int32))) (lv' := [(3, .int (v3 + (1 : Int32))), (2, .int o7.1), (1, .int v3), (4, .int o7.1), (0, .ref (ad k))]) hx hb dX9_hidden_55 hl (k := 4) rfl rfl (by decide) rfl (fun ls hl => ?_)
            refine lv_goto (tgt := 14) hx hb dX9_hidden_58 (by decide) ?_
            exact hrec14 v3 o7.1 (v3 + (1 : Int32)) o7.2 _ _ _ hw (lv_sub hl [4, 2, 1, 0] rfl) h
set_option maxHeartbeats 4000000 in
set_option maxRecDepth 100000 in
theorem kX9_hidden {k : Nat} (hk : mB N k) {σ : q_M} {out : Int32 × q_M} (h : fX9_hidden k σ = some out) : q_Mi l (gM D cI cJ cR ad adK adV N) yX9_hidden wsX9_hidden { frames := 4, cells := 0, slots := 0, locals := 96 } [.ref (ad k)] σ out := by
  refine q_Mi_of (cc := cX9_hidden) (maxL := 5) (ret := (some .int)) (by decide) rfl (Nat.le_of_ble_eq_true rfl) ?_
  intro p e s m below meth c ls C0 hr hlk hl hw
  obtain ⟨hx, hb, hml, hown, hts⟩ := id C0
  replace hl : lv_has ls 5 [(0, .ref (ad k))] := hl
  unfold fX9_hidden at h
  refine lv_aload_n hx hb dX9_hidden_0 rfl (lv_at hl 0 rfl) ?_
  refine lv_aload_n hx hb dX9_hidden_1 rfl (lv_at hl 0 rfl) ?_
  refine gt_X9_12 C0 hw hk iX9_hidden_X9 (by decide +kernel) dX9_hidden_2 ?_
  obtain ⟨o1, hco1, h⟩ := q_bind h
  refine q_callv hw (va_runV (As := [.long (σ.2 k 12)]) (rest := []) C0 (kX9_findFree hk hco1 _) (cwV 1 hts gX9_hidden_X9_findFree rfl rfl rfl eX9_findFree ⟨(Nat.le_of_ble_eq_true rfl), (Nat.le_of_ble_eq_true rfl)⟩) ⟨q_blind, q_recv hw (mN_0 hk) (mE_0 hk) rfl, q_pre hw⟩ rfl rfl hl.1 rfl (lv_room (Nat.le_of_ble_eq_true rfl)) dX9_hidden_5 ⟨Nat.zero_le _, Nat.zero_le _⟩) (fun H locs hw => ?_)
  refine lv_iconst (v := (-1 : Int32)) hx hb dX9_hidden_8 (by decide) ?_
  refine lv_istore_n (lv' := [(1, .int (-1 : Int32)), (0, .ref (ad k))]) hx hb dX9_hidden_9 rfl hl (by decide) rfl (fun ls hl => ?_)
  refine lv_iconst (v := (0 : Int32)) hx hb dX9_hidden_10 (by decide) ?_
  refine lv_istore_n (lv' := [(2, .int (0 : Int32)), (1, .int (-1 : Int32)), (0, .ref (ad k))]) hx hb dX9_hidden_11 rfl hl (by decide) rfl (fun ls hl => ?_)
  refine lv_iconst (v := (0 : Int32)) hx hb dX9_hidden_12 (by decide) ?_
  refine lv_istore_n (lv' := [(3, .int (0 : Int32)), (2, .int (0 : Int32)), (1, .int (-1 : Int32)), (0, .ref (ad k))]) hx hb dX9_hidden_13 rfl hl (by decide) rfl (fun ls hl => ?_)
  exact tX9_hidden_c14 hk C0 hr hlk q_FU (-1 : Int32) (0 : Int32) (0 : Int32) o1 _ _ _ hw (lv_sub hl [3, 2, 1, 0] rfl) h
-- X9_make make(I)I
theorem iX9_make_X9 : ∀ w ∈ wsX90, w ∈ wsX9_make := by decide +kernel
set_option maxHeartbeats 4000000 in
set_option maxRecDepth 100000 in
theorem tX9_make_c67 {k : Nat} {p1 : Int32} (hk : mB N k) (C0 : CallFix p m c cX9_make 4 s args wsX9_make RX9) (hr : meth.sig.returnType = (some .int)) (hlk : meth.locks = false) {out : Int32 × q_M}  : ∀ n : Nat, ∀ (v2 : Int32) (v3 : Int32) (σ : q_M) (H : Heap) (locs : List Loc) (ls : Array Slot), q_H (gM D cI cJ cR ad adK adV N) (q_A (gM D cI cJ cR ad adK adV N) s.heap.size) s σ H locs → lv_has ls 4 [(0, .ref (ad k)), (2, .int v2), (3, .int v3)] → fX9_make_c67 k p1 n v2 v3 σ = some out → W p l e { frames := 4, cells := 0, slots := 0, locals := 103 } s m args below meth c H locs 0 0 (MQ below (q_Ri (gM D cI cJ cR ad adK adV N) (q_A (gM D cI cJ cR ad adK adV N) s.heap.size) out) args s 0 0 (q_A (gM D cI cJ cR ad adK adV N) s.heap.size)) (F0 m 67 ls []) := by
  obtain ⟨hx, hb, hml, hown, hts⟩ := id C0
  intro n
  induction n with
  | zero =>
    intro v2 v3 σ H locs ls  hw hl h
    cases (show (none : Option (Int32 × q_M)) = some out from h)
  | succ n hrec67 =>
    intro v2 v3 σ H locs ls  hw hl h
    replace h : fX9_make_c67b k p1 (fX9_make_c67 k p1 n) v2 v3 σ = some out := h
    unfold fX9_make_c67b at h
    refine lv_iload_n hx hb dX9_make_67 rfl (lv_at hl 2 rfl) ?_
    refine lv_iload_n hx hb dX9_make_68 rfl (lv_at hl 1 rfl) ?_
    refine lv_icmp_ge (tgt := 90) hx hb dX9_make_69 (by decide) (fun c1 => ?_) (fun c1 => ?_)
    · replace h := q_t h c1
      refine lv_aload_n hx hb dX9_make_90 rfl (lv_at hl 0 rfl) ?_
      refine lv_iload_n hx hb dX9_make_91 rfl (lv_at hl 1 rfl) ?_
      refine pt_X9_13 C0 hw hk iX9_make_X9 (by decide +kernel) dX9_make_92 (fun σ2 H locs e_σ2 hw => ?_)
      replace h := q_let_at e_σ2 h
      refine lv_aload_n hx hb dX9_make_95 rfl (lv_at hl 0 rfl) ?_
      refine lv_iconst (v := (0 : Int32)) hx hb dX9_make_96 (by decide) ?_
      refine pt_X9_15 C0 hw hk iX9_make_X9 (by decide +kernel) dX9_make_97 (fun σ3 H locs e_σ3 hw => ?_)
      replace h := q_let_at e_σ3 h
      refine lv_iload_n hx hb dX9_make_100 rfl (lv_at hl 1 rfl) ?_
      exact q_iret h C0 hr hlk hw dX9_make_101
    · replace h := q_f h c1
      refine lv_aload_n hx hb dX9_make_72 rfl (lv_at hl 0 rfl) ?_
      refine gt_X9_14 C0 hw hk iX9_make_X9 (by decide +kernel) dX9_make_73 ?_
      refine lv_iload_n hx hb dX9_make_76 rfl (lv_at hl 2 rfl) ?_
      refine lv_aload_n hx hb dX9_make_77 rfl (lv_at hl 0 rfl) ?_
      refine gt_X9_34 C0 hw hk iX9_make_X9 (by decide +kernel) dX9_make_78 ?_
      refine lv_iload_n hx hb dX9_make_81 rfl (lv_at hl 2 rfl) ?_
      obtain ⟨b4, h⟩ := q_if h
      refine q_lald (t0 := 1) C0 hw (mN_18 hk) (mE_18 hk) rfl b4 dX9_make_82 ?_
      obtain ⟨b5, h⟩ := q_if h
      refine q_last (t0 := 1) C0 hw (mN_11 hk) (mE_11 hk) rfl b5 dX9_make_83 (fun σ6 H locs e_σ6 hw => ?_)
      replace h := q_let_at e_σ6 h
      refine lv_iinc (v := (v3 + (1 : Int32))) (lv' := [(3, .int (v3 + (1 : Int32))), (0, .ref (ad k)), (2, .int v2)]) hx hb dX9_make_84 hl (k := 2) rfl rfl (by decide) rfl (fun ls hl => ?_)
      refine lv_goto (tgt := 67) hx hb dX9_make_87 (by decide) ?_
      exact hrec67 v2 (v3 + (1 : Int32)) σ6 _ _ _ hw (lv_sub hl [1, 2, 0] rfl) h
set_option maxHeartbeats 4000000 in
set_option maxRecDepth 100000 in
theorem kX9_make {k : Nat} {p1 : Int32} (hk : mB N k) {σ : q_M} {out : Int32 × q_M} (h : fX9_make k p1 σ = some out) : q_Mi l (gM D cI cJ cR ad adK adV N) yX9_make wsX9_make { frames := 4, cells := 0, slots := 0, locals := 103 } [.ref (ad k), .int p1] σ out := by
  refine q_Mi_of (cc := cX9_make) (maxL := 4) (ret := (some .int)) (by decide) rfl (Nat.le_of_ble_eq_true rfl) ?_
  intro p e s m below meth c ls C0 hr hlk hl hw
  obtain ⟨hx, hb, hml, hown, hts⟩ := id C0
  replace hl : lv_has ls 4 [(0, .ref (ad k)), (1, .int p1)] := hl
  unfold fX9_make at h
  refine lv_iload_n hx hb dX9_make_0 rfl (lv_at hl 1 rfl) ?_
  refine lv_i2l hx hb dX9_make_1 rfl ?_
  refine lv_lconst (v := (0 : Int64)) hx hb dX9_make_2 (by decide) ?_
  refine lv_ldc2 (v := (63 : Int64)) hx hb hown (hts (.constantLong RX9 323 (63)) (by decide +kernel)) dX9_make_3 ?_
  obtain ⟨o1, hco1, h⟩ := q_bind h
  refine q_calli hw (va_runS (As := [.long p1.toInt64, .long (0 : Int64), .long (63 : Int64)]) (rest := []) C0 (kX9_in hco1 _) (va_cwS 3 hts gX9_make_X9_in rfl rfl rfl eX9_in ⟨(Nat.le_of_ble_eq_true rfl), (Nat.le_of_ble_eq_true rfl)⟩) ⟨q_blind, q_pre hw⟩ rfl rfl hl.1 rfl (lv_room (Nat.le_of_ble_eq_true rfl)) dX9_make_6 ⟨Nat.zero_le _, Nat.zero_le _⟩) (fun H locs hw => ?_)
  refine lv_if_ne (tgt := 19) hx hb dX9_make_9 (by decide) (fun c2 => ?_) (fun c2 => ?_)
  · replace h := q_f h c2
    refine lv_aload_n hx hb dX9_make_19 rfl (lv_at hl 0 rfl) ?_
    refine lv_aload_n hx hb dX9_make_20 rfl (lv_at hl 0 rfl) ?_
    refine gt_X9_12 C0 hw hk iX9_make_X9 (by decide +kernel) dX9_make_21 ?_
    obtain ⟨o3, hco3, h⟩ := q_bind h
    refine q_callv hw (va_runV (As := [.long (o1.2.2 k 12)]) (rest := []) C0 (kX9_findFree hk hco3 _) (cwV 1 hts gX9_make_X9_findFree rfl rfl rfl eX9_findFree ⟨(Nat.le_of_ble_eq_true rfl), (Nat.le_of_ble_eq_true rfl)⟩) ⟨q_blind, q_recv hw (mN_0 hk) (mE_0 hk) rfl, q_pre hw⟩ rfl rfl hl.1 rfl (lv_room (Nat.le_of_ble_eq_true rfl)) dX9_make_24 ⟨Nat.zero_le _, Nat.zero_le _⟩) (fun H locs hw => ?_)
    refine lv_aload_n hx hb dX9_make_27 rfl (lv_at hl 0 rfl) ?_
    refine lv_iload_n hx hb dX9_make_28 rfl (lv_at hl 1 rfl) ?_
    obtain ⟨o4, hco4, h⟩ := q_bind h
    refine q_calli hw (va_runV (As := [.int p1]) (rest := []) C0 (kX9_doServe hk hco4 _) (cwV 1 hts gX9_make_X9_doServe rfl rfl rfl eX9_doServe ⟨(Nat.le_of_ble_eq_true rfl), (Nat.le_of_ble_eq_true rfl)⟩) ⟨q_blind, q_recv hw (mN_0 hk) (mE_0 hk) rfl, q_pre hw⟩ rfl rfl hl.1 rfl (lv_room (Nat.le_of_ble_eq_true rfl)) dX9_make_29 ⟨Nat.zero_le _, Nat.zero_le _⟩) (fun H locs hw => ?_)
    refine lv_if_ne (tgt := 42) hx hb dX9_make_32 (by decide) (fun c5 => ?_) (fun c5 => ?_)
    · replace h := q_f h c5
      refine lv_aload_n hx hb dX9_make_42 rfl (lv_at hl 0 rfl) ?_
      refine lv_iload_n hx hb dX9_make_43 rfl (lv_at hl 1 rfl) ?_
      obtain ⟨o6, hco6, h⟩ := q_bind h
      refine q_callv hw (va_runV (As := [.int p1]) (rest := []) C0 (kX9_findWays hk hco6 _) (cwV 1 hts gX9_make_X9_findWays rfl rfl rfl eX9_findWays ⟨(Nat.le_of_ble_eq_true rfl), (Nat.le_of_ble_eq_true rfl)⟩) ⟨q_blind, q_recv hw (mN_0 hk) (mE_0 hk) rfl, q_pre hw⟩ rfl rfl hl.1 rfl (lv_room (Nat.le_of_ble_eq_true rfl)) dX9_make_44 ⟨Nat.zero_le _, Nat.zero_le _⟩) (fun H locs hw => ?_)
      refine lv_aload_n hx hb dX9_make_47 rfl (lv_at hl 0 rfl) ?_
      obtain ⟨o7, hco7, h⟩ := q_bind h
      refine q_calli hw (va_runV (As := []) (rest := []) C0 (kX9_findParts hk hco7 _) (cwV 0 hts gX9_make_X9_findParts rfl rfl rfl eX9_findParts ⟨(Nat.le_of_ble_eq_true rfl), (Nat.le_of_ble_eq_true rfl)⟩) ⟨q_blind, q_recv hw (mN_0 hk) (mE_0 hk) rfl, q_pre hw⟩ rfl rfl hl.1 rfl (lv_room (Nat.le_of_ble_eq_true rfl)) dX9_make_48 ⟨Nat.zero_le _, Nat.zero_le _⟩) (fun H locs hw => ?_)
      refine lv_istore_n (lv' := [(2, .int o7.1), (0, .ref (ad k)), (1, .int p1)]) hx hb dX9_make_51 rfl hl (by decide) rfl (fun ls hl => ?_)
      refine lv_iload_n hx hb dX9_make_52 rfl (lv_at hl 0 rfl) ?_
      refine lv_bipush (v := (8 : Int32)) hx hb dX9_make_53 (by decide) ?_
      refine lv_icmp_le (tgt := 65) hx hb dX9_make_55 (by decide) (fun c8 => ?_) (fun c8 => ?_)
      · replace h := q_t h c8
        refine lv_iconst (v := (0 : Int32)) hx hb dX9_make_65 (by decide) ?_
        refine lv_istore_n (lv' := [(3, .int (0 : Int32)), (2, .int o7.1), (0, .ref (ad k)), (1, .int p1)]) hx hb dX9_make_66 rfl hl (by decide) rfl (fun ls hl => ?_)
        exact tX9_make_c67 hk C0 hr hlk q_FU o7.1 (0 : Int32) o7.2 _ _ _ hw (lv_sub hl [2, 1, 0] rfl) h
      · replace h := q_f h c8
        refine lv_aload_n hx hb dX9_make_58 rfl (lv_at hl 1 rfl) ?_
        refine lv_bipush (v := (-6 : Int32)) hx hb dX9_make_59 (by decide) ?_
        obtain ⟨o9, hco9, h⟩ := q_bind h
        refine q_calli hw (va_runV (As := [.int (-6 : Int32)]) (rest := []) C0 (kX9_refuse hk hco9 _) (cwV 1 hts gX9_make_X9_refuse rfl rfl rfl eX9_refuse ⟨(Nat.le_of_ble_eq_true rfl), (Nat.le_of_ble_eq_true rfl)⟩) ⟨q_blind, q_recv hw (mN_0 hk) (mE_0 hk) rfl, q_pre hw⟩ rfl rfl hl.1 rfl (lv_room (Nat.le_of_ble_eq_true rfl)) dX9_make_61 ⟨Nat.zero_le _, Nat.zero_le _⟩) (fun H locs hw => ?_)
        exact q_iret h C0 hr hlk hw dX9_make_64
    · replace h := q_t h c5
      refine lv_aload_n hx hb dX9_make_35 rfl (lv_at hl 0 rfl) ?_
      refine lv_bipush (v := (-5 : Int32)) hx hb dX9_make_36 (by decide) ?_
      obtain ⟨o10, hco10, h⟩ := q_bind h
      refine q_calli hw (va_runV (As := [.int (-5 : Int32)]) (rest := []) C0 (kX9_refuse hk hco10 _) (cwV 1 hts gX9_make_X9_refuse rfl rfl rfl eX9_refuse ⟨(Nat.le_of_ble_eq_true rfl), (Nat.le_of_ble_eq_true rfl)⟩) ⟨q_blind, q_recv hw (mN_0 hk) (mE_0 hk) rfl, q_pre hw⟩ rfl rfl hl.1 rfl (lv_room (Nat.le_of_ble_eq_true rfl)) dX9_make_38 ⟨Nat.zero_le _, Nat.zero_le _⟩) (fun H locs hw => ?_)
      exact q_iret h C0 hr hlk hw dX9_make_41
  · replace h := q_t h c2
    refine lv_aload_n hx hb dX9_make_12 rfl (lv_at hl 0 rfl) ?_
    refine lv_bipush (v := (-2 : Int32)) hx hb dX9_make_13 (by decide) ?_
    obtain ⟨o11, hco11, h⟩ := q_bind h
    refine q_calli hw (va_runV (As := [.int (-2 : Int32)]) (rest := []) C0 (kX9_refuse hk hco11 _) (cwV 1 hts gX9_make_X9_refuse rfl rfl rfl eX9_refuse ⟨(Nat.le_of_ble_eq_true rfl), (Nat.le_of_ble_eq_true rfl)⟩) ⟨q_blind, q_recv hw (mN_0 hk) (mE_0 hk) rfl, q_pre hw⟩ rfl rfl hl.1 rfl (lv_room (Nat.le_of_ble_eq_true rfl)) dX9_make_15 ⟨Nat.zero_le _, Nat.zero_le _⟩) (fun H locs hw => ?_)
    exact q_iret h C0 hr hlk hw dX9_make_18
-- X9_halves halves(I)I
theorem iX9_halves_X9 : ∀ w ∈ wsX90, w ∈ wsX9_halves := by decide +kernel
set_option maxHeartbeats 4000000 in
set_option maxRecDepth 100000 in
theorem tX9_halves_c73 {k : Nat} {p1 : Int32} {rec31 : Int32 → Int32 → q_M → Option (Int32 × q_M)} {rec45 : Int32 → Int32 → Int32 → Int32 → q_M → Option (Int32 × q_M)} (hk : mB N k) (C0 : CallFix p m c cX9_halves 7 s args wsX9_halves RX9) (hr : meth.sig.returnType = (some .int)) (hlk : meth.locks = false) {out : Int32 × q_M} (hrec31 : ∀ (v2 : Int32) (v3 : Int32) (σ : q_M) (H : Heap) (locs : List Loc) (ls : Array Slot), q_H (gM D cI cJ cR ad adK adV N) (q_A (gM D cI cJ cR ad adK adV N) s.heap.size) s σ H locs → lv_has ls 7 [(0, .ref (ad k)), (1, .int p1), (2, .int v2), (3, .int v3)] → rec31 v2 v3 σ = some out → W p l e { frames := 4, cells := 0, slots := 0, locals := 96 } s m args below meth c H locs 0 0 (MQ below (q_Ri (gM D cI cJ cR ad adK adV N) (q_A (gM D cI cJ cR ad adK adV N) s.heap.size) out) args s 0 0 (q_A (gM D cI cJ cR ad adK adV N) s.heap.size)) (F0 m 31 ls [])) (hrec45 : ∀ (v2 : Int32) (v3 : Int32) (v4 : Int32) (v5 : Int32) (σ : q_M) (H : Heap) (locs : List Loc) (ls : Array Slot), q_H (gM D cI cJ cR ad adK adV N) (q_A (gM D cI cJ cR ad adK adV N) s.heap.size) s σ H locs → lv_has ls 7 [(0, .ref (ad k)), (1, .int p1), (2, .int v2), (3, .int v3), (4, .int v4), (5, .int v5)] → rec45 v2 v3 v4 v5 σ = some out → W p l e { frames := 4, cells := 0, slots := 0, locals := 96 } s m args below meth c H locs 0 0 (MQ below (q_Ri (gM D cI cJ cR ad adK adV N) (q_A (gM D cI cJ cR ad adK adV N) s.heap.size) out) args s 0 0 (q_A (gM D cI cJ cR ad adK adV N) s.heap.size)) (F0 m 45 ls [])) : ∀ (v2 : Int32) (v3 : Int32) (v4 : Int32) (v5 : Int32) (s0 : Int32) (s1 : Int32) (σ : q_M) (H : Heap) (locs : List Loc) (ls : Array Slot), q_H (gM D cI cJ cR ad adK adV N) (q_A (gM D cI cJ cR ad adK adV N) s.heap.size) s σ H locs → lv_has ls 7 [(0, .ref (ad k)), (1, .int p1), (2, .int v2), (3, .int v3), (4, .int v4), (5, .int v5)] → fX9_halves_c73 k p1 rec31 rec45 v2 v3 v4 v5 s0 s1 σ = some out → W p l e { frames := 4, cells := 0, slots := 0, locals := 96 } s m args below meth c H locs 0 0 (MQ below (q_Ri (gM D cI cJ cR ad adK adV N) (q_A (gM D cI cJ cR ad adK adV N) s.heap.size) out) args s 0 0 (q_A (gM D cI cJ cR ad adK adV N) s.heap.size)) (F0 m 73 ls [.int s0, .int s1]) := by
  obtain ⟨hx, hb, hml, hown, hts⟩ := id C0
  intro v2 v3 v4 v5 s0 s1 σ H locs ls  hw hl h
  unfold fX9_halves_c73 at h
  refine lv_iadd hx hb dX9_halves_73 ?_
  refine lv_istore (lv' := [(6, .int (s1 + s0)), (0, .ref (ad k)), (1, .int p1), (2, .int v2), (3, .int v3), (4, .int v4), (5, .int v5)]) hx hb dX9_halves_74 hl (by decide) rfl (fun ls hl => ?_)
  refine lv_iload hx hb dX9_halves_76 (lv_at hl 5 rfl) ?_
  refine lv_aload_n hx hb dX9_halves_78 rfl (lv_at hl 1 rfl) ?_
  refine gt_X9_32 C0 hw hk iX9_halves_X9 (by decide +kernel) dX9_halves_79 ?_
  refine lv_iload hx hb dX9_halves_82 (lv_at hl 6 rfl) ?_
  obtain ⟨b1, h⟩ := q_if h
  refine q_iald (t0 := 0) C0 hw (mN_16 hk) (mE_16 hk) rfl b1 dX9_halves_84 ?_
  refine lv_iconst (v := (-1 : Int32)) hx hb dX9_halves_85 (by decide) ?_
  refine lv_icmp_eq (tgt := 104) hx hb dX9_halves_86 (by decide) (fun c2 => ?_) (fun c2 => ?_)
  · replace h := q_t h c2
    refine lv_iconst (v := (1 : Int32)) hx hb dX9_halves_104 (by decide) ?_
    refine lv_goto (tgt := 109) hx hb dX9_halves_105 (by decide) ?_
    refine lv_iand hx hb dX9_halves_109 ?_
    refine lv_istore (lv' := [(4, .int (v4 &&& (1 : Int32))), (6, .int (s1 + s0)), (0, .ref (ad k)), (1, .int p1), (2, .int v2), (3, .int v3), (5, .int v5)]) hx hb dX9_halves_110 hl (by decide) rfl (fun ls hl => ?_)
    refine lv_iinc (v := (v5 + (1 : Int32))) (lv' := [(5, .int (v5 + (1 : Int32))), (4, .int (v4 &&& (1 : Int32))), (6, .int (s1 + s0)), (0, .ref (ad k)), (1, .int p1), (2, .int v2), (3, .int v3)]) hx hb dX9_halves_112 hl (k := 6) rfl rfl (by decide) rfl (fun ls hl => ?_)
    refine lv_goto (tgt := 45) hx hb dX9_halves_115 (by decide) ?_
    exact hrec45 v2 v3 (v4 &&& (1 : Int32)) (v5 + (1 : Int32)) σ _ _ _ hw (lv_sub hl [3, 4, 5, 6, 1, 0] rfl) h
  · replace h := q_f h c2
    refine lv_aload_n hx hb dX9_halves_89 rfl (lv_at hl 1 rfl) ?_
    refine gt_X9_32 C0 hw hk iX9_halves_X9 (by decide +kernel) dX9_halves_90 ?_
    refine lv_iload hx hb dX9_halves_93 (lv_at hl 6 rfl) ?_
    obtain ⟨b3, h⟩ := q_if h
    refine q_iald (t0 := 0) C0 hw (mN_16 hk) (mE_16 hk) rfl b3 dX9_halves_95 ?_
    refine lv_iload hx hb dX9_halves_96 (lv_at hl 0 rfl) ?_
    refine q_ishr (v := (q_sr (σ.1 (k + 16) v5.toNatClampNeg) (s1 + s0))) C0 dX9_halves_98 rfl ?_
    refine lv_iconst (v := (1 : Int32)) hx hb dX9_halves_99 (by decide) ?_
    refine lv_iand hx hb dX9_halves_100 ?_
    refine lv_if_eq (tgt := 108) hx hb dX9_halves_101 (by decide) (fun c4 => ?_) (fun c4 => ?_)
    · replace h := q_t h c4
      refine lv_iconst (v := (0 : Int32)) hx hb dX9_halves_108 (by decide) ?_
      refine lv_iand hx hb dX9_halves_109 ?_
      refine lv_istore (lv' := [(4, .int (v4 &&& (0 : Int32))), (6, .int (s1 + s0)), (0, .ref (ad k)), (1, .int p1), (2, .int v2), (3, .int v3), (5, .int v5)]) hx hb dX9_halves_110 hl (by decide) rfl (fun ls hl => ?_)
      refine lv_iinc (v := (v5 + (1 : Int32))) (lv' := [(5, .int (v5 + (1 : Int32))), (4, .int (v4 &&& (0 : Int32))), (6, .int (s1 + s0)), (0, .ref (ad k)), (1, .int p1), (2, .int v2), (3, .int v3)]) hx hb dX9_halves_112 hl (k := 6) rfl rfl (by decide) rfl (fun ls hl => ?_)
      refine lv_goto (tgt := 45) hx hb dX9_halves_115 (by decide) ?_
      exact hrec45 v2 v3 (v4 &&& (0 : Int32)) (v5 + (1 : Int32)) σ _ _ _ hw (lv_sub hl [3, 4, 5, 6, 1, 0] rfl) h
    · replace h := q_f h c4
      refine lv_iconst (v := (1 : Int32)) hx hb dX9_halves_104 (by decide) ?_
      refine lv_goto (tgt := 109) hx hb dX9_halves_105 (by decide) ?_
      refine lv_iand hx hb dX9_halves_109 ?_
      refine lv_istore (lv' := [(4, .int (v4 &&& (1 : Int32))), (6, .int (s1 + s0)), (0, .ref (ad k)), (1, .int p1), (2, .int v2), (3, .int v3), (5, .int v5)]) hx hb dX9_halves_110 hl (by decide) rfl (fun ls hl => ?_)
      refine lv_iinc (v := (v5 + (1 : Int32))) (lv' := [(5, .int (v5 + (1 : Int32))), (4, .int (v4 &&& (1 : Int32))), (6, .int (s1 + s0)), (0, .ref (ad k)), (1, .int p1), (2, .int v2), (3, .int v3)]) hx hb dX9_halves_112 hl (k := 6) rfl rfl (by decide) rfl (fun ls hl => ?_)
      refine lv_goto (tgt := 45) hx hb dX9_halves_115 (by decide) ?_
      exact hrec45 v2 v3 (v4 &&& (1 : Int32)) (v5 + (1 : Int32)) σ _ _ _ hw (lv_sub hl [3, 4, 5, 6, 1, 0] rfl) h
set_option maxHeartbeats 4000000 in
set_option maxRecDepth 100000 in
theorem tX9_halves_c45 {k : Nat} {p1 : Int32} {rec31 : Int32 → Int32 → q_M → Option (Int32 × q_M)} (hk : mB N k) (C0 : CallFix p m c cX9_halves 7 s args wsX9_halves RX9) (hr : meth.sig.returnType = (some .int)) (hlk : meth.locks = false) {out : Int32 × q_M} (hrec31 : ∀ (v2 : Int32) (v3 : Int32) (σ : q_M) (H : Heap) (locs : List Loc) (ls : Array Slot), q_H (gM D cI cJ cR ad adK adV N) (q_A (gM D cI cJ cR ad adK adV N) s.heap.size) s σ H locs → lv_has ls 7 [(0, .ref (ad k)), (1, .int p1), (2, .int v2), (3, .int v3)] → rec31 v2 v3 σ = some out → W p l e { frames := 4, cells := 0, slots := 0, locals := 96 } s m args below meth c H locs 0 0 (MQ below (q_Ri (gM D cI cJ cR ad adK adV N) (q_A (gM D cI cJ cR ad adK adV N) s.heap.size) out) args s 0 0 (q_A (gM D cI cJ cR ad adK adV N) s.heap.size)) (F0 m 31 ls [])) : ∀ n : Nat, ∀ (v2 : Int32) (v3 : Int32) (v4 : Int32) (v5 : Int32) (σ : q_M) (H : Heap) (locs : List Loc) (ls : Array Slot), q_H (gM D cI cJ cR ad adK adV N) (q_A (gM D cI cJ cR ad adK adV N) s.heap.size) s σ H locs → lv_has ls 7 [(0, .ref (ad k)), (1, .int p1), (2, .int v2), (3, .int v3), (4, .int v4), (5, .int v5)] → fX9_halves_c45 k p1 rec31 n v2 v3 v4 v5 σ = some out → W p l e { frames := 4, cells := 0, slots := 0, locals := 96 } s m args below meth c H locs 0 0 (MQ below (q_Ri (gM D cI cJ cR ad adK adV N) (q_A (gM D cI cJ cR ad adK adV N) s.heap.size) out) args s 0 0 (q_A (gM D cI cJ cR ad adK adV N) s.heap.size)) (F0 m 45 ls []) := by
  obtain ⟨hx, hb, hml, hown, hts⟩ := id C0
  intro n
  induction n with
  | zero =>
    intro v2 v3 v4 v5 σ H locs ls  hw hl h
    cases (show (none : Option (Int32 × q_M)) = some out from h)
  | succ n hrec45 =>
    intro v2 v3 v4 v5 σ H locs ls  hw hl h
    replace h : fX9_halves_c45b k p1 rec31 (fX9_halves_c45 k p1 rec31 n) v2 v3 v4 v5 σ = some out := h
    unfold fX9_halves_c45b at h
    refine lv_iload hx hb dX9_halves_45 (lv_at hl 5 rfl) ?_
    refine lv_aload_n hx hb dX9_halves_47 rfl (lv_at hl 0 rfl) ?_
    obtain ⟨o1, hco1, h⟩ := q_bind h
    refine q_calli hw (va_runV (As := []) (rest := [.int v5]) C0 (kX9_many hk hco1 _) (cwV 0 hts gX9_halves_X9_many rfl rfl rfl eX9_many ⟨(Nat.le_of_ble_eq_true rfl), (Nat.le_of_ble_eq_true rfl)⟩) ⟨q_blind, q_recv hw (mN_0 hk) (mE_0 hk) rfl, q_pre hw⟩ rfl rfl hl.1 rfl (lv_room (Nat.le_of_ble_eq_true rfl)) dX9_halves_48 ⟨Nat.zero_le _, Nat.zero_le _⟩) (fun H locs hw => ?_)
    refine lv_icmp_ge (tgt := 118) hx hb dX9_halves_51 (by decide) (fun c2 => ?_) (fun c2 => ?_)
    · replace h := q_t h c2
      refine lv_iload_n hx hb dX9_halves_118 rfl (lv_at hl 2 rfl) ?_
      refine lv_iload hx hb dX9_halves_119 (lv_at hl 4 rfl) ?_
      refine lv_if_eq (tgt := 130) hx hb dX9_halves_121 (by decide) (fun c3 => ?_) (fun c3 => ?_)
      · replace h := q_t h c3
        refine lv_iconst (v := (0 : Int32)) hx hb dX9_halves_130 (by decide) ?_
        refine lv_ior hx hb dX9_halves_131 ?_
        refine lv_istore_n (lv' := [(2, .int (v2 ||| (0 : Int32))), (0, .ref (ad k)), (1, .int p1), (3, .int v3), (4, .int v4), (5, .int v5)]) hx hb dX9_halves_132 rfl hl (by decide) rfl (fun ls hl => ?_)
        refine lv_iinc (v := (v3 + (1 : Int32))) (lv' := [(3, .int (v3 + (1 : Int32))), (2, .int (v2 ||| (0 : Int32))), (0, .ref (ad k)), (1, .int p1), (4, .int v4), (5, .int v5)]) hx hb dX9_halves_133 hl (k := 3) rfl rfl (by decide) rfl (fun ls hl => ?_)
        refine lv_goto (tgt := 31) hx hb dX9_halves_136 (by decide) ?_
        exact hrec31 (v2 ||| (0 : Int32)) (v3 + (1 : Int32)) o1.2 _ _ _ hw (lv_sub hl [2, 3, 1, 0] rfl) h
      · replace h := q_f h c3
        refine lv_iconst (v := (1 : Int32)) hx hb dX9_halves_124 (by decide) ?_
        refine lv_iload_n hx hb dX9_halves_125 rfl (lv_at hl 3 rfl) ?_
        refine q_ishl (v := (q_sl (1 : Int32) v3)) C0 dX9_halves_126 rfl ?_
        refine lv_goto (tgt := 131) hx hb dX9_halves_127 (by decide) ?_
        refine lv_ior hx hb dX9_halves_131 ?_
        refine lv_topi (fun x4 e_x4 => ?_)
        replace h := q_let_at e_x4 h
        refine lv_istore_n (lv' := [(2, .int x4), (0, .ref (ad k)), (1, .int p1), (3, .int v3), (4, .int v4), (5, .int v5)]) hx hb dX9_halves_132 rfl hl (by decide) rfl (fun ls hl => ?_)
        refine lv_iinc (v := (v3 + (1 : Int32))) (lv' := [(3, .int (v3 + (1 : Int32))), (2, .int x4), (0, .ref (ad k)), (1, .int p1), (4, .int v4), (5, .int v5)]) hx hb dX9_halves_133 hl (k := 3) rfl rfl (by decide) rfl (fun ls hl => ?_)
        refine lv_goto (tgt := 31) hx hb dX9_halves_136 (by decide) ?_
        exact hrec31 x4 (v3 + (1 : Int32)) o1.2 _ _ _ hw (lv_sub hl [2, 3, 1, 0] rfl) h
    · replace h := q_f h c2
      refine lv_iconst (v := (2 : Int32)) hx hb dX9_halves_54 (by decide) ?_
      refine lv_iload_n hx hb dX9_halves_55 rfl (lv_at hl 1 rfl) ?_
      refine lv_imul hx hb dX9_halves_56 ?_
      refine lv_aload_n hx hb dX9_halves_57 rfl (lv_at hl 0 rfl) ?_
      refine lv_iload hx hb dX9_halves_58 (lv_at hl 5 rfl) ?_
      refine lv_iload_n hx hb dX9_halves_60 rfl (lv_at hl 1 rfl) ?_
      obtain ⟨o5, hco5, h⟩ := q_bind h
      refine q_calli hw (va_runV (As := [.int v5, .int p1]) (rest := [.int ((2 : Int32) * p1)]) C0 (kX9_sideOf hk hco5 _) (cwV 2 hts gX9_halves_X9_sideOf rfl rfl rfl eX9_sideOf ⟨(Nat.le_of_ble_eq_true rfl), (Nat.le_of_ble_eq_true rfl)⟩) ⟨q_blind, q_recv hw (mN_0 hk) (mE_0 hk) rfl, q_pre hw⟩ rfl rfl hl.1 rfl (lv_room (Nat.le_of_ble_eq_true rfl)) dX9_halves_61 ⟨Nat.zero_le _, Nat.zero_le _⟩) (fun H locs hw => ?_)
      refine lv_iload_n hx hb dX9_halves_64 rfl (lv_at hl 3 rfl) ?_
      refine lv_icmp_ge (tgt := 72) hx hb dX9_halves_65 (by decide) (fun c6 => ?_) (fun c6 => ?_)
      · replace h := q_t h c6
        refine lv_iconst (v := (0 : Int32)) hx hb dX9_halves_72 (by decide) ?_
        exact tX9_halves_c73 hk C0 hr hlk hrec31 hrec45 v2 v3 v4 v5 (0 : Int32) ((2 : Int32) * p1) o5.2 _ _ _ hw (lv_sub hl [0, 1, 2, 3, 4, 5] rfl) h
      · replace h := q_f h c6
        refine lv_iconst (v := (1 : Int32)) hx hb dX9_halves_68 (by decide) ?_
        refine lv_goto (tgt := 73) hx hb dX9_halves_69 (by decide) ?_
        exact tX9_halves_c73 hk C0 hr hlk hrec31 hrec45 v2 v3 v4 v5 (1 : Int32) ((2 : Int32) * p1) o5.2 _ _ _ hw (lv_sub hl [0, 1, 2, 3, 4, 5] rfl) h
set_option maxHeartbeats 4000000 in
set_option maxRecDepth 100000 in
theorem tX9_halves_c31 {k : Nat} {p1 : Int32} (hk : mB N k) (C0 : CallFix p m c cX9_halves 7 s args wsX9_halves RX9) (hr : meth.sig.returnType = (some .int)) (hlk : meth.locks = false) {out : Int32 × q_M}  : ∀ n : Nat, ∀ (v2 : Int32) (v3 : Int32) (σ : q_M) (H : Heap) (locs : List Loc) (ls : Array Slot), q_H (gM D cI cJ cR ad adK adV N) (q_A (gM D cI cJ cR ad adK adV N) s.heap.size) s σ H locs → lv_has ls 7 [(0, .ref (ad k)), (1, .int p1), (2, .int v2), (3, .int v3)] → fX9_halves_c31 k p1 n v2 v3 σ = some out → W p l e { frames := 4, cells := 0, slots := 0, locals := 96 } s m args below meth c H locs 0 0 (MQ below (q_Ri (gM D cI cJ cR ad adK adV N) (q_A (gM D cI cJ cR ad adK adV N) s.heap.size) out) args s 0 0 (q_A (gM D cI cJ cR ad adK adV N) s.heap.size)) (F0 m 31 ls []) := by
  obtain ⟨hx, hb, hml, hown, hts⟩ := id C0
  intro n
  induction n with
  | zero =>
    intro v2 v3 σ H locs ls  hw hl h
    cases (show (none : Option (Int32 × q_M)) = some out from h)
  | succ n hrec31 =>
    intro v2 v3 σ H locs ls  hw hl h
    replace h : fX9_halves_c31b k p1 (fX9_halves_c31 k p1 n) v2 v3 σ = some out := h
    unfold fX9_halves_c31b at h
    refine lv_iload_n hx hb dX9_halves_31 rfl (lv_at hl 3 rfl) ?_
    refine lv_aload_n hx hb dX9_halves_32 rfl (lv_at hl 0 rfl) ?_
    refine gt_X9_11 C0 hw hk iX9_halves_X9 (by decide +kernel) dX9_halves_33 ?_
    refine lv_icmp_gt (tgt := 139) hx hb dX9_halves_36 (by decide) (fun c1 => ?_) (fun c1 => ?_)
    · replace h := q_t h c1
      refine lv_iload_n hx hb dX9_halves_139 rfl (lv_at hl 2 rfl) ?_
      exact q_iret h C0 hr hlk hw dX9_halves_140
    · replace h := q_f h c1
      refine lv_iconst (v := (1 : Int32)) hx hb dX9_halves_39 (by decide) ?_
      refine lv_istore (lv' := [(4, .int (1 : Int32)), (0, .ref (ad k)), (1, .int p1), (2, .int v2), (3, .int v3)]) hx hb dX9_halves_40 hl (by decide) rfl (fun ls hl => ?_)
      refine lv_iconst (v := (0 : Int32)) hx hb dX9_halves_42 (by decide) ?_
      refine lv_istore (lv' := [(5, .int (0 : Int32)), (4, .int (1 : Int32)), (0, .ref (ad k)), (1, .int p1), (2, .int v2), (3, .int v3)]) hx hb dX9_halves_43 hl (by decide) rfl (fun ls hl => ?_)
      exact tX9_halves_c45 hk C0 hr hlk hrec31 q_FU v2 v3 (1 : Int32) (0 : Int32) σ _ _ _ hw (lv_sub hl [2, 3, 4, 5, 1, 0] rfl) h
set_option maxHeartbeats 4000000 in
set_option maxRecDepth 100000 in
theorem kX9_halves {k : Nat} {p1 : Int32} (hk : mB N k) {σ : q_M} {out : Int32 × q_M} (h : fX9_halves k p1 σ = some out) : q_Mi l (gM D cI cJ cR ad adK adV N) yX9_halves wsX9_halves { frames := 4, cells := 0, slots := 0, locals := 96 } [.ref (ad k), .int p1] σ out := by
  refine q_Mi_of (cc := cX9_halves) (maxL := 7) (ret := (some .int)) (by decide) rfl (Nat.le_of_ble_eq_true rfl) ?_
  intro p e s m below meth c ls C0 hr hlk hl hw
  obtain ⟨hx, hb, hml, hown, hts⟩ := id C0
  replace hl : lv_has ls 7 [(0, .ref (ad k)), (1, .int p1)] := hl
  unfold fX9_halves at h
  refine lv_iload_n hx hb dX9_halves_0 rfl (lv_at hl 1 rfl) ?_
  refine lv_i2l hx hb dX9_halves_1 rfl ?_
  refine lv_lconst (v := (0 : Int64)) hx hb dX9_halves_2 (by decide) ?_
  refine lv_ldc2 (v := (2 : Int64)) hx hb hown (hts (.constantLong RX9 152 (2)) (by decide +kernel)) dX9_halves_3 ?_
  obtain ⟨o1, hco1, h⟩ := q_bind h
  refine q_calli hw (va_runS (As := [.long p1.toInt64, .long (0 : Int64), .long (2 : Int64)]) (rest := []) C0 (kX9_in hco1 _) (va_cwS 3 hts gX9_halves_X9_in rfl rfl rfl eX9_in ⟨(Nat.le_of_ble_eq_true rfl), (Nat.le_of_ble_eq_true rfl)⟩) ⟨q_blind, q_pre hw⟩ rfl rfl hl.1 rfl (lv_room (Nat.le_of_ble_eq_true rfl)) dX9_halves_6 ⟨Nat.zero_le _, Nat.zero_le _⟩) (fun H locs hw => ?_)
  refine lv_if_ne (tgt := 19) hx hb dX9_halves_9 (by decide) (fun c2 => ?_) (fun c2 => ?_)
  · replace h := q_f h c2
    refine lv_aload_n hx hb dX9_halves_19 rfl (lv_at hl 0 rfl) ?_
    refine lv_aload_n hx hb dX9_halves_20 rfl (lv_at hl 0 rfl) ?_
    refine gt_X9_12 C0 hw hk iX9_halves_X9 (by decide +kernel) dX9_halves_21 ?_
    obtain ⟨o3, hco3, h⟩ := q_bind h
    refine q_callv hw (va_runV (As := [.long (o1.2.2 k 12)]) (rest := []) C0 (kX9_findFree hk hco3 _) (cwV 1 hts gX9_halves_X9_findFree rfl rfl rfl eX9_findFree ⟨(Nat.le_of_ble_eq_true rfl), (Nat.le_of_ble_eq_true rfl)⟩) ⟨q_blind, q_recv hw (mN_0 hk) (mE_0 hk) rfl, q_pre hw⟩ rfl rfl hl.1 rfl (lv_room (Nat.le_of_ble_eq_true rfl)) dX9_halves_24 ⟨Nat.zero_le _, Nat.zero_le _⟩) (fun H locs hw => ?_)
    refine lv_iconst (v := (0 : Int32)) hx hb dX9_halves_27 (by decide) ?_
    refine lv_istore_n (lv' := [(2, .int (0 : Int32)), (0, .ref (ad k)), (1, .int p1)]) hx hb dX9_halves_28 rfl hl (by decide) rfl (fun ls hl => ?_)
    refine lv_iconst (v := (0 : Int32)) hx hb dX9_halves_29 (by decide) ?_
    refine lv_istore_n (lv' := [(3, .int (0 : Int32)), (2, .int (0 : Int32)), (0, .ref (ad k)), (1, .int p1)]) hx hb dX9_halves_30 rfl hl (by decide) rfl (fun ls hl => ?_)
    exact tX9_halves_c31 hk C0 hr hlk q_FU (0 : Int32) (0 : Int32) o3 _ _ _ hw (lv_sub hl [2, 3, 1, 0] rfl) h
  · replace h := q_t h c2
    refine lv_aload_n hx hb dX9_halves_12 rfl (lv_at hl 0 rfl) ?_
    refine lv_bipush (v := (-2 : Int32)) hx hb dX9_halves_13 (by decide) ?_
    obtain ⟨o4, hco4, h⟩ := q_bind h
    refine q_calli hw (va_runV (As := [.int (-2 : Int32)]) (rest := []) C0 (kX9_refuse hk hco4 _) (cwV 1 hts gX9_halves_X9_refuse rfl rfl rfl eX9_refuse ⟨(Nat.le_of_ble_eq_true rfl), (Nat.le_of_ble_eq_true rfl)⟩) ⟨q_blind, q_recv hw (mN_0 hk) (mE_0 hk) rfl, q_pre hw⟩ rfl rfl hl.1 rfl (lv_room (Nat.le_of_ble_eq_true rfl)) dX9_halves_15 ⟨Nat.zero_le _, Nat.zero_le _⟩) (fun H locs hw => ?_)
    exact q_iret h C0 hr hlk hw dX9_halves_18
-- X9_line line(I)I
theorem iX9_line_X9 : ∀ w ∈ wsX90, w ∈ wsX9_line := by decide +kernel
set_option maxHeartbeats 4000000 in
set_option maxRecDepth 100000 in
theorem tX9_line_c88 {k : Nat} {p1 : Int32} {rec21 : Int32 → q_M → Option (Int32 × q_M)} (hk : mB N k) (C0 : CallFix p m c cX9_line 6 s args wsX9_line RX9) (hr : meth.sig.returnType = (some .int)) (hlk : meth.locks = false) {out : Int32 × q_M} (hrec21 : ∀ (v2 : Int32) (σ : q_M) (H : Heap) (locs : List Loc) (ls : Array Slot), q_H (gM D cI cJ cR ad adK adV N) (q_A (gM D cI cJ cR ad adK adV N) s.heap.size) s σ H locs → lv_has ls 6 [(0, .ref (ad k)), (1, .int p1), (2, .int v2)] → rec21 v2 σ = some out → W p l e { frames := 2, cells := 0, slots := 0, locals := 46 } s m args below meth c H locs 0 0 (MQ below (q_Ri (gM D cI cJ cR ad adK adV N) (q_A (gM D cI cJ cR ad adK adV N) s.heap.size) out) args s 0 0 (q_A (gM D cI cJ cR ad adK adV N) s.heap.size)) (F0 m 21 ls [])) : ∀ n : Nat, ∀ (v2 : Int32) (v3 : Int32) (v4 : Int32) (v5 : Int32) (σ : q_M) (H : Heap) (locs : List Loc) (ls : Array Slot), q_H (gM D cI cJ cR ad adK adV N) (q_A (gM D cI cJ cR ad adK adV N) s.heap.size) s σ H locs → lv_has ls 6 [(0, .ref (ad k)), (1, .int p1), (2, .int v2), (3, .int v3), (4, .int v4), (5, .int v5)] → fX9_line_c88 k p1 rec21 n v2 v3 v4 v5 σ = some out → W p l e { frames := 2, cells := 0, slots := 0, locals := 46 } s m args below meth c H locs 0 0 (MQ below (q_Ri (gM D cI cJ cR ad adK adV N) (q_A (gM D cI cJ cR ad adK adV N) s.heap.size) out) args s 0 0 (q_A (gM D cI cJ cR ad adK adV N) s.heap.size)) (F0 m 88 ls []) := by
  obtain ⟨hx, hb, hml, hown, hts⟩ := id C0
  intro n
  induction n with
  | zero =>
    intro v2 v3 v4 v5 σ H locs ls  hw hl h
    cases (show (none : Option (Int32 × q_M)) = some out from h)
  | succ n hrec88 =>
    intro v2 v3 v4 v5 σ H locs ls  hw hl h
    replace h : fX9_line_c88b k p1 rec21 (fX9_line_c88 k p1 rec21 n) v2 v3 v4 v5 σ = some out := h
    unfold fX9_line_c88b at h
    refine lv_iload hx hb dX9_line_88 (lv_at hl 5 rfl) ?_
    refine lv_iconst (v := (-1 : Int32)) hx hb dX9_line_90 (by decide) ?_
    refine lv_icmp_eq (tgt := 124) hx hb dX9_line_91 (by decide) (fun c1 => ?_) (fun c1 => ?_)
    · replace h := q_t h c1
      refine lv_aload_n hx hb dX9_line_124 rfl (lv_at hl 0 rfl) ?_
      refine gt_X9_12 C0 hw hk iX9_line_X9 (by decide +kernel) dX9_line_125 ?_
      refine lv_iload_n hx hb dX9_line_128 rfl (lv_at hl 2 rfl) ?_
      obtain ⟨o2, hco2, h⟩ := q_bind h
      refine q_calli hw (va_runS (As := [.long (σ.2 k 12), .int v2]) (rest := []) C0 (kX9_has hco2 _) (va_cwS 2 hts gX9_line_X9_has rfl rfl rfl eX9_has ⟨(Nat.le_of_ble_eq_true rfl), (Nat.le_of_ble_eq_true rfl)⟩) ⟨q_blind, q_pre hw⟩ rfl rfl hl.1 rfl (lv_room (Nat.le_of_ble_eq_true rfl)) dX9_line_129 ⟨Nat.zero_le _, Nat.zero_le _⟩) (fun H locs hw => ?_)
      refine lv_if_ne (tgt := 146) hx hb dX9_line_132 (by decide) (fun c3 => ?_) (fun c3 => ?_)
      · replace h := q_f h c3
        refine lv_iinc (v := (v2 + (1 : Int32))) (lv' := [(2, .int (v2 + (1 : Int32))), (0, .ref (ad k)), (1, .int p1), (3, .int v3), (4, .int v4), (5, .int v5)]) hx hb dX9_line_146 hl (k := 2) rfl rfl (by decide) rfl (fun ls hl => ?_)
        refine lv_goto (tgt := 21) hx hb dX9_line_149 (by decide) ?_
        exact hrec21 (v2 + (1 : Int32)) o2.2 _ _ _ hw (lv_sub hl [1, 2, 0] rfl) h
      · replace h := q_t h c3
        refine lv_iload_n hx hb dX9_line_135 rfl (lv_at hl 3 rfl) ?_
        refine lv_if_eq (tgt := 146) hx hb dX9_line_136 (by decide) (fun c4 => ?_) (fun c4 => ?_)
        · replace h := q_t h c4
          refine lv_iinc (v := (v2 + (1 : Int32))) (lv' := [(2, .int (v2 + (1 : Int32))), (0, .ref (ad k)), (1, .int p1), (3, .int v3), (4, .int v4), (5, .int v5)]) hx hb dX9_line_146 hl (k := 2) rfl rfl (by decide) rfl (fun ls hl => ?_)
          refine lv_goto (tgt := 21) hx hb dX9_line_149 (by decide) ?_
          exact hrec21 (v2 + (1 : Int32)) o2.2 _ _ _ hw (lv_sub hl [1, 2, 0] rfl) h
        · replace h := q_f h c4
          refine lv_iload hx hb dX9_line_139 (lv_at hl 4 rfl) ?_
          refine lv_if_eq (tgt := 146) hx hb dX9_line_141 (by decide) (fun c5 => ?_) (fun c5 => ?_)
          · replace h := q_t h c5
            refine lv_iinc (v := (v2 + (1 : Int32))) (lv' := [(2, .int (v2 + (1 : Int32))), (0, .ref (ad k)), (1, .int p1), (3, .int v3), (4, .int v4), (5, .int v5)]) hx hb dX9_line_146 hl (k := 2) rfl rfl (by decide) rfl (fun ls hl => ?_)
            refine lv_goto (tgt := 21) hx hb dX9_line_149 (by decide) ?_
            exact hrec21 (v2 + (1 : Int32)) o2.2 _ _ _ hw (lv_sub hl [1, 2, 0] rfl) h
          · replace h := q_f h c5
            refine lv_iconst (v := (0 : Int32)) hx hb dX9_line_144 (by decide) ?_
            exact q_iret h C0 hr hlk hw dX9_line_145
    · replace h := q_f h c1
      refine lv_iload hx hb dX9_line_94 (lv_at hl 4 rfl) ?_
      refine lv_aload_n hx hb dX9_line_96 rfl (lv_at hl 0 rfl) ?_
      refine gt_X9_12 C0 hw hk iX9_line_X9 (by decide +kernel) dX9_line_97 ?_
      refine lv_iload hx hb dX9_line_100 (lv_at hl 5 rfl) ?_
      obtain ⟨o6, hco6, h⟩ := q_bind h
      refine q_calli hw (va_runS (As := [.long (σ.2 k 12), .int v5]) (rest := [.int v4]) C0 (kX9_has hco6 _) (va_cwS 2 hts gX9_line_X9_has rfl rfl rfl eX9_has ⟨(Nat.le_of_ble_eq_true rfl), (Nat.le_of_ble_eq_true rfl)⟩) ⟨q_blind, q_pre hw⟩ rfl rfl hl.1 rfl (lv_room (Nat.le_of_ble_eq_true rfl)) dX9_line_102 ⟨Nat.zero_le _, Nat.zero_le _⟩) (fun H locs hw => ?_)
      refine lv_ior hx hb dX9_line_105 ?_
      refine lv_istore (lv' := [(4, .int (v4 ||| o6.1)), (0, .ref (ad k)), (1, .int p1), (2, .int v2), (3, .int v3), (5, .int v5)]) hx hb dX9_line_106 hl (by decide) rfl (fun ls hl => ?_)
      refine lv_aload_n hx hb dX9_line_108 rfl (lv_at hl 1 rfl) ?_
      refine lv_iload hx hb dX9_line_109 (lv_at hl 5 rfl) ?_
      refine lv_iconst (v := (2 : Int32)) hx hb dX9_line_111 (by decide) ?_
      refine lv_iload_n hx hb dX9_line_112 rfl (lv_at hl 2 rfl) ?_
      refine lv_imul hx hb dX9_line_113 ?_
      refine lv_iconst (v := (1 : Int32)) hx hb dX9_line_114 (by decide) ?_
      refine lv_iadd hx hb dX9_line_115 ?_
      obtain ⟨o7, hco7, h⟩ := q_bind h
      refine q_calli hw (va_runV (As := [.int v5, .int (((2 : Int32) * p1) + (1 : Int32))]) (rest := []) C0 (kX9_from hk hco7 _) (cwV 2 hts gX9_line_X9_from rfl rfl rfl eX9_from ⟨(Nat.le_of_ble_eq_true rfl), (Nat.le_of_ble_eq_true rfl)⟩) ⟨q_blind, q_recv hw (mN_0 hk) (mE_0 hk) rfl, q_pre hw⟩ rfl rfl hl.1 rfl (lv_room (Nat.le_of_ble_eq_true rfl)) dX9_line_116 ⟨Nat.zero_le _, Nat.zero_le _⟩) (fun H locs hw => ?_)
      refine lv_istore (lv' := [(5, .int o7.1), (4, .int (v4 ||| o6.1)), (0, .ref (ad k)), (1, .int p1), (2, .int v2), (3, .int v3)]) hx hb dX9_line_119 hl (by decide) rfl (fun ls hl => ?_)
      refine lv_goto (tgt := 88) hx hb dX9_line_121 (by decide) ?_
      exact hrec88 v2 v3 (v4 ||| o6.1) o7.1 o7.2 _ _ _ hw (lv_sub hl [2, 3, 4, 5, 1, 0] rfl) h
set_option maxHeartbeats 4000000 in
set_option maxRecDepth 100000 in
theorem tX9_line_c44 {k : Nat} {p1 : Int32} {rec21 : Int32 → q_M → Option (Int32 × q_M)} (hk : mB N k) (C0 : CallFix p m c cX9_line 6 s args wsX9_line RX9) (hr : meth.sig.returnType = (some .int)) (hlk : meth.locks = false) {out : Int32 × q_M} (hrec21 : ∀ (v2 : Int32) (σ : q_M) (H : Heap) (locs : List Loc) (ls : Array Slot), q_H (gM D cI cJ cR ad adK adV N) (q_A (gM D cI cJ cR ad adK adV N) s.heap.size) s σ H locs → lv_has ls 6 [(0, .ref (ad k)), (1, .int p1), (2, .int v2)] → rec21 v2 σ = some out → W p l e { frames := 2, cells := 0, slots := 0, locals := 46 } s m args below meth c H locs 0 0 (MQ below (q_Ri (gM D cI cJ cR ad adK adV N) (q_A (gM D cI cJ cR ad adK adV N) s.heap.size) out) args s 0 0 (q_A (gM D cI cJ cR ad adK adV N) s.heap.size)) (F0 m 21 ls [])) : ∀ n : Nat, ∀ (v2 : Int32) (v3 : Int32) (v4 : Int32) (v5 : Int32) (σ : q_M) (H : Heap) (locs : List Loc) (ls : Array Slot), q_H (gM D cI cJ cR ad adK adV N) (q_A (gM D cI cJ cR ad adK adV N) s.heap.size) s σ H locs → lv_has ls 6 [(0, .ref (ad k)), (1, .int p1), (2, .int v2), (3, .int v3), (4, .int v4), (5, .int v5)] → fX9_line_c44 k p1 rec21 n v2 v3 v4 v5 σ = some out → W p l e { frames := 2, cells := 0, slots := 0, locals := 46 } s m args below meth c H locs 0 0 (MQ below (q_Ri (gM D cI cJ cR ad adK adV N) (q_A (gM D cI cJ cR ad adK adV N) s.heap.size) out) args s 0 0 (q_A (gM D cI cJ cR ad adK adV N) s.heap.size)) (F0 m 44 ls []) := by
  obtain ⟨hx, hb, hml, hown, hts⟩ := id C0
  intro n
  induction n with
  | zero =>
    intro v2 v3 v4 v5 σ H locs ls  hw hl h
    cases (show (none : Option (Int32 × q_M)) = some out from h)
  | succ n hrec44 =>
    intro v2 v3 v4 v5 σ H locs ls  hw hl h
    replace h : fX9_line_c44b k p1 rec21 (fX9_line_c44 k p1 rec21 n) v2 v3 v4 v5 σ = some out := h
    unfold fX9_line_c44b at h
    refine lv_iload hx hb dX9_line_44 (lv_at hl 5 rfl) ?_
    refine lv_iconst (v := (-1 : Int32)) hx hb dX9_line_46 (by decide) ?_
    refine lv_icmp_eq (tgt := 76) hx hb dX9_line_47 (by decide) (fun c1 => ?_) (fun c1 => ?_)
    · replace h := q_t h c1
      refine lv_aload_n hx hb dX9_line_76 rfl (lv_at hl 0 rfl) ?_
      refine lv_iload_n hx hb dX9_line_77 rfl (lv_at hl 2 rfl) ?_
      refine lv_iconst (v := (2 : Int32)) hx hb dX9_line_78 (by decide) ?_
      refine lv_iload_n hx hb dX9_line_79 rfl (lv_at hl 1 rfl) ?_
      refine lv_imul hx hb dX9_line_80 ?_
      refine lv_iconst (v := (1 : Int32)) hx hb dX9_line_81 (by decide) ?_
      refine lv_iadd hx hb dX9_line_82 ?_
      obtain ⟨o2, hco2, h⟩ := q_bind h
      refine q_calli hw (va_runV (As := [.int v2, .int (((2 : Int32) * p1) + (1 : Int32))]) (rest := []) C0 (kX9_from hk hco2 _) (cwV 2 hts gX9_line_X9_from rfl rfl rfl eX9_from ⟨(Nat.le_of_ble_eq_true rfl), (Nat.le_of_ble_eq_true rfl)⟩) ⟨q_blind, q_recv hw (mN_0 hk) (mE_0 hk) rfl, q_pre hw⟩ rfl rfl hl.1 rfl (lv_room (Nat.le_of_ble_eq_true rfl)) dX9_line_83 ⟨Nat.zero_le _, Nat.zero_le _⟩) (fun H locs hw => ?_)
      refine lv_istore (lv' := [(5, .int o2.1), (0, .ref (ad k)), (1, .int p1), (2, .int v2), (3, .int v3), (4, .int v4)]) hx hb dX9_line_86 hl (by decide) rfl (fun ls hl => ?_)
      exact tX9_line_c88 hk C0 hr hlk hrec21 q_FU v2 v3 v4 o2.1 o2.2 _ _ _ hw (lv_sub hl [1, 2, 3, 4, 5, 0] rfl) h
    · replace h := q_f h c1
      refine lv_iload_n hx hb dX9_line_50 rfl (lv_at hl 3 rfl) ?_
      refine lv_aload_n hx hb dX9_line_51 rfl (lv_at hl 0 rfl) ?_
      refine gt_X9_12 C0 hw hk iX9_line_X9 (by decide +kernel) dX9_line_52 ?_
      refine lv_iload hx hb dX9_line_55 (lv_at hl 5 rfl) ?_
      obtain ⟨o3, hco3, h⟩ := q_bind h
      refine q_calli hw (va_runS (As := [.long (σ.2 k 12), .int v5]) (rest := [.int v3]) C0 (kX9_has hco3 _) (va_cwS 2 hts gX9_line_X9_has rfl rfl rfl eX9_has ⟨(Nat.le_of_ble_eq_true rfl), (Nat.le_of_ble_eq_true rfl)⟩) ⟨q_blind, q_pre hw⟩ rfl rfl hl.1 rfl (lv_room (Nat.le_of_ble_eq_true rfl)) dX9_line_57 ⟨Nat.zero_le _, Nat.zero_le _⟩) (fun H locs hw => ?_)
      refine lv_ior hx hb dX9_line_60 ?_
      refine lv_istore_n (lv' := [(3, .int (v3 ||| o3.1)), (0, .ref (ad k)), (1, .int p1), (2, .int v2), (4, .int v4), (5, .int v5)]) hx hb dX9_line_61 rfl hl (by decide) rfl (fun ls hl => ?_)
      refine lv_aload_n hx hb dX9_line_62 rfl (lv_at hl 1 rfl) ?_
      refine lv_iload hx hb dX9_line_63 (lv_at hl 5 rfl) ?_
      refine lv_iconst (v := (2 : Int32)) hx hb dX9_line_65 (by decide) ?_
      refine lv_iload_n hx hb dX9_line_66 rfl (lv_at hl 2 rfl) ?_
      refine lv_imul hx hb dX9_line_67 ?_
      obtain ⟨o4, hco4, h⟩ := q_bind h
      refine q_calli hw (va_runV (As := [.int v5, .int ((2 : Int32) * p1)]) (rest := []) C0 (kX9_from hk hco4 _) (cwV 2 hts gX9_line_X9_from rfl rfl rfl eX9_from ⟨(Nat.le_of_ble_eq_true rfl), (Nat.le_of_ble_eq_true rfl)⟩) ⟨q_blind, q_recv hw (mN_0 hk) (mE_0 hk) rfl, q_pre hw⟩ rfl rfl hl.1 rfl (lv_room (Nat.le_of_ble_eq_true rfl)) dX9_line_68 ⟨Nat.zero_le _, Nat.zero_le _⟩) (fun H locs hw => ?_)
      refine lv_istore (lv' := [(5, .int o4.1), (3, .int (v3 ||| o3.1)), (0, .ref (ad k)), (1, .int p1), (2, .int v2), (4, .int v4)]) hx hb dX9_line_71 hl (by decide) rfl (fun ls hl => ?_)
      refine lv_goto (tgt := 44) hx hb dX9_line_73 (by decide) ?_
      exact hrec44 v2 (v3 ||| o3.1) v4 o4.1 o4.2 _ _ _ hw (lv_sub hl [2, 3, 4, 1, 5, 0] rfl) h
set_option maxHeartbeats 4000000 in
set_option maxRecDepth 100000 in
theorem tX9_line_c21 {k : Nat} {p1 : Int32} (hk : mB N k) (C0 : CallFix p m c cX9_line 6 s args wsX9_line RX9) (hr : meth.sig.returnType = (some .int)) (hlk : meth.locks = false) {out : Int32 × q_M}  : ∀ n : Nat, ∀ (v2 : Int32) (σ : q_M) (H : Heap) (locs : List Loc) (ls : Array Slot), q_H (gM D cI cJ cR ad adK adV N) (q_A (gM D cI cJ cR ad adK adV N) s.heap.size) s σ H locs → lv_has ls 6 [(0, .ref (ad k)), (1, .int p1), (2, .int v2)] → fX9_line_c21 k p1 n v2 σ = some out → W p l e { frames := 2, cells := 0, slots := 0, locals := 46 } s m args below meth c H locs 0 0 (MQ below (q_Ri (gM D cI cJ cR ad adK adV N) (q_A (gM D cI cJ cR ad adK adV N) s.heap.size) out) args s 0 0 (q_A (gM D cI cJ cR ad adK adV N) s.heap.size)) (F0 m 21 ls []) := by
  obtain ⟨hx, hb, hml, hown, hts⟩ := id C0
  intro n
  induction n with
  | zero =>
    intro v2 σ H locs ls  hw hl h
    cases (show (none : Option (Int32 × q_M)) = some out from h)
  | succ n hrec21 =>
    intro v2 σ H locs ls  hw hl h
    replace h : fX9_line_c21b k p1 (fX9_line_c21 k p1 n) v2 σ = some out := h
    unfold fX9_line_c21b at h
    refine lv_iload_n hx hb dX9_line_21 rfl (lv_at hl 2 rfl) ?_
    refine lv_aload_n hx hb dX9_line_22 rfl (lv_at hl 0 rfl) ?_
    obtain ⟨o1, hco1, h⟩ := q_bind h
    refine q_calli hw (va_runV (As := []) (rest := [.int v2]) C0 (kX9_many hk hco1 _) (cwV 0 hts gX9_line_X9_many rfl rfl rfl eX9_many ⟨(Nat.le_of_ble_eq_true rfl), (Nat.le_of_ble_eq_true rfl)⟩) ⟨q_blind, q_recv hw (mN_0 hk) (mE_0 hk) rfl, q_pre hw⟩ rfl rfl hl.1 rfl (lv_room (Nat.le_of_ble_eq_true rfl)) dX9_line_23 ⟨Nat.zero_le _, Nat.zero_le _⟩) (fun H locs hw => ?_)
    refine lv_icmp_ge (tgt := 152) hx hb dX9_line_26 (by decide) (fun c2 => ?_) (fun c2 => ?_)
    · replace h := q_t h c2
      refine lv_iconst (v := (1 : Int32)) hx hb dX9_line_152 (by decide) ?_
      exact q_iret h C0 hr hlk hw dX9_line_153
    · replace h := q_f h c2
      refine lv_iconst (v := (0 : Int32)) hx hb dX9_line_29 (by decide) ?_
      refine lv_istore_n (lv' := [(3, .int (0 : Int32)), (0, .ref (ad k)), (1, .int p1), (2, .int v2)]) hx hb dX9_line_30 rfl hl (by decide) rfl (fun ls hl => ?_)
      refine lv_iconst (v := (0 : Int32)) hx hb dX9_line_31 (by decide) ?_
      refine lv_istore (lv' := [(4, .int (0 : Int32)), (3, .int (0 : Int32)), (0, .ref (ad k)), (1, .int p1), (2, .int v2)]) hx hb dX9_line_32 hl (by decide) rfl (fun ls hl => ?_)
      refine lv_aload_n hx hb dX9_line_34 rfl (lv_at hl 2 rfl) ?_
      refine lv_iload_n hx hb dX9_line_35 rfl (lv_at hl 4 rfl) ?_
      refine lv_iconst (v := (2 : Int32)) hx hb dX9_line_36 (by decide) ?_
      refine lv_iload_n hx hb dX9_line_37 rfl (lv_at hl 3 rfl) ?_
      refine lv_imul hx hb dX9_line_38 ?_
      obtain ⟨o3, hco3, h⟩ := q_bind h
      refine q_calli hw (va_runV (As := [.int v2, .int ((2 : Int32) * p1)]) (rest := []) C0 (kX9_from hk hco3 _) (cwV 2 hts gX9_line_X9_from rfl rfl rfl eX9_from ⟨(Nat.le_of_ble_eq_true rfl), (Nat.le_of_ble_eq_true rfl)⟩) ⟨q_blind, q_recv hw (mN_0 hk) (mE_0 hk) rfl, q_pre hw⟩ rfl rfl hl.1 rfl (lv_room (Nat.le_of_ble_eq_true rfl)) dX9_line_39 ⟨Nat.zero_le _, Nat.zero_le _⟩) (fun H locs hw => ?_)
      refine lv_istore (lv' := [(5, .int o3.1), (4, .int (0 : Int32)), (3, .int (0 : Int32)), (0, .ref (ad k)), (1, .int p1), (2, .int v2)]) hx hb dX9_line_42 hl (by decide) rfl (fun ls hl => ?_)
      exact tX9_line_c44 hk C0 hr hlk hrec21 q_FU v2 (0 : Int32) (0 : Int32) o3.1 o3.2 _ _ _ hw (lv_sub hl [3, 4, 5, 2, 1, 0] rfl) h
set_option maxHeartbeats 4000000 in
set_option maxRecDepth 100000 in
theorem kX9_line {k : Nat} {p1 : Int32} (hk : mB N k) {σ : q_M} {out : Int32 × q_M} (h : fX9_line k p1 σ = some out) : q_Mi l (gM D cI cJ cR ad adK adV N) yX9_line wsX9_line { frames := 2, cells := 0, slots := 0, locals := 46 } [.ref (ad k), .int p1] σ out := by
  refine q_Mi_of (cc := cX9_line) (maxL := 6) (ret := (some .int)) (by decide) rfl (Nat.le_of_ble_eq_true rfl) ?_
  intro p e s m below meth c ls C0 hr hlk hl hw
  obtain ⟨hx, hb, hml, hown, hts⟩ := id C0
  replace hl : lv_has ls 6 [(0, .ref (ad k)), (1, .int p1)] := hl
  unfold fX9_line at h
  refine lv_iload_n hx hb dX9_line_0 rfl (lv_at hl 1 rfl) ?_
  refine lv_i2l hx hb dX9_line_1 rfl ?_
  refine lv_lconst (v := (0 : Int64)) hx hb dX9_line_2 (by decide) ?_
  refine lv_ldc2 (v := (2 : Int64)) hx hb hown (hts (.constantLong RX9 152 (2)) (by decide +kernel)) dX9_line_3 ?_
  obtain ⟨o1, hco1, h⟩ := q_bind h
  refine q_calli hw (va_runS (As := [.long p1.toInt64, .long (0 : Int64), .long (2 : Int64)]) (rest := []) C0 (kX9_in hco1 _) (va_cwS 3 hts gX9_line_X9_in rfl rfl rfl eX9_in ⟨(Nat.le_of_ble_eq_true rfl), (Nat.le_of_ble_eq_true rfl)⟩) ⟨q_blind, q_pre hw⟩ rfl rfl hl.1 rfl (lv_room (Nat.le_of_ble_eq_true rfl)) dX9_line_6 ⟨Nat.zero_le _, Nat.zero_le _⟩) (fun H locs hw => ?_)
  refine lv_if_ne (tgt := 19) hx hb dX9_line_9 (by decide) (fun c2 => ?_) (fun c2 => ?_)
  · replace h := q_f h c2
    refine lv_iconst (v := (0 : Int32)) hx hb dX9_line_19 (by decide) ?_
    refine lv_istore_n (lv' := [(2, .int (0 : Int32)), (0, .ref (ad k)), (1, .int p1)]) hx hb dX9_line_20 rfl hl (by decide) rfl (fun ls hl => ?_)
    exact tX9_line_c21 hk C0 hr hlk q_FU (0 : Int32) o1.2 _ _ _ hw (lv_sub hl [1, 2, 0] rfl) h
  · replace h := q_t h c2
    refine lv_aload_n hx hb dX9_line_12 rfl (lv_at hl 0 rfl) ?_
    refine lv_bipush (v := (-2 : Int32)) hx hb dX9_line_13 (by decide) ?_
    obtain ⟨o3, hco3, h⟩ := q_bind h
    refine q_calli hw (va_runV (As := [.int (-2 : Int32)]) (rest := []) C0 (kX9_refuse hk hco3 _) (cwV 1 hts gX9_line_X9_refuse rfl rfl rfl eX9_refuse ⟨(Nat.le_of_ble_eq_true rfl), (Nat.le_of_ble_eq_true rfl)⟩) ⟨q_blind, q_recv hw (mN_0 hk) (mE_0 hk) rfl, q_pre hw⟩ rfl rfl hl.1 rfl (lv_room (Nat.le_of_ble_eq_true rfl)) dX9_line_15 ⟨Nat.zero_le _, Nat.zero_le _⟩) (fun H locs hw => ?_)
    exact q_iret h C0 hr hlk hw dX9_line_18
-- X9_needs needs(J)I
set_option maxHeartbeats 4000000 in
set_option maxRecDepth 100000 in
theorem kX9_needs {k : Nat} {p1 : Int64} (hk : mB N k) {σ : q_M} {out : Int32 × q_M} (h : fX9_needs k p1 σ = some out) : q_Mi l (gM D cI cJ cR ad adK adV N) yX9_needs wsX9_needs { frames := 4, cells := 0, slots := 0, locals := 96 } [.ref (ad k), .long p1] σ out := by
  refine q_Mi_of (cc := cX9_needs) (maxL := 4) (ret := (some .int)) (by decide) rfl (Nat.le_of_ble_eq_true rfl) ?_
  intro p e s m below meth c ls C0 hr hlk hl hw
  obtain ⟨hx, hb, hml, hown, hts⟩ := id C0
  replace hl : lv_has ls 4 [(0, .ref (ad k)), (1, .long p1)] := hl
  unfold fX9_needs at h
  refine lv_aload_n hx hb dX9_needs_0 rfl (lv_at hl 0 rfl) ?_
  refine lv_lload_n hx hb dX9_needs_1 rfl (lv_at hl 1 rfl) ?_
  obtain ⟨o1, hco1, h⟩ := q_bind h
  refine q_callv hw (va_runV (As := [.long p1]) (rest := []) C0 (kX9_findFree hk hco1 _) (cwV 1 hts gX9_needs_X9_findFree rfl rfl rfl eX9_findFree ⟨(Nat.le_of_ble_eq_true rfl), (Nat.le_of_ble_eq_true rfl)⟩) ⟨q_blind, q_recv hw (mN_0 hk) (mE_0 hk) rfl, q_pre hw⟩ rfl rfl hl.1 rfl (lv_room (Nat.le_of_ble_eq_true rfl)) dX9_needs_2 ⟨Nat.zero_le _, Nat.zero_le _⟩) (fun H locs hw => ?_)
  refine lv_aload_n hx hb dX9_needs_5 rfl (lv_at hl 0 rfl) ?_
  obtain ⟨o2, hco2, h⟩ := q_bind h
  refine q_calli hw (va_runV (As := []) (rest := []) C0 (kX9_fewestFound hk hco2 _) (cwV 0 hts gX9_needs_X9_fewestFound rfl rfl rfl eX9_fewestFound ⟨(Nat.le_of_ble_eq_true rfl), (Nat.le_of_ble_eq_true rfl)⟩) ⟨q_blind, q_recv hw (mN_0 hk) (mE_0 hk) rfl, q_pre hw⟩ rfl rfl hl.1 rfl (lv_room (Nat.le_of_ble_eq_true rfl)) dX9_needs_6 ⟨Nat.zero_le _, Nat.zero_le _⟩) (fun H locs hw => ?_)
  refine lv_istore_n (lv' := [(3, .int o2.1), (0, .ref (ad k)), (1, .long p1)]) hx hb dX9_needs_9 rfl hl (by decide) rfl (fun ls hl => ?_)
  refine lv_iload_n hx hb dX9_needs_10 rfl (lv_at hl 0 rfl) ?_
  refine lv_iconst (v := (-1 : Int32)) hx hb dX9_needs_11 (by decide) ?_
  refine lv_icmp_ne (tgt := 20) hx hb dX9_needs_12 (by decide) (fun c3 => ?_) (fun c3 => ?_)
  · replace h := q_f h c3
    refine lv_iload_n hx hb dX9_needs_20 rfl (lv_at hl 0 rfl) ?_
    refine lv_i2l hx hb dX9_needs_21 rfl ?_
    obtain ⟨o4, hco4, h⟩ := q_bind h
    refine q_calli hw (va_runS (As := [.long o2.1.toInt64]) (rest := []) C0 (kX9_bits hco4 _) (va_cwS 1 hts gX9_needs_X9_bits rfl rfl rfl eX9_bits ⟨(Nat.le_of_ble_eq_true rfl), (Nat.le_of_ble_eq_true rfl)⟩) ⟨q_blind, q_pre hw⟩ rfl rfl hl.1 rfl (lv_room (Nat.le_of_ble_eq_true rfl)) dX9_needs_22 ⟨Nat.zero_le _, Nat.zero_le _⟩) (fun H locs hw => ?_)
    exact q_iret h C0 hr hlk hw dX9_needs_25
  · replace h := q_t h c3
    refine lv_bipush (v := (9 : Int32)) hx hb dX9_needs_15 (by decide) ?_
    refine lv_goto (tgt := 25) hx hb dX9_needs_17 (by decide) ?_
    exact q_iret h C0 hr hlk hw dX9_needs_25
-- X9_cutOf cutOf(II)I
theorem iX9_cutOf_X9 : ∀ w ∈ wsX90, w ∈ wsX9_cutOf := by decide +kernel
theorem eX9_needs : yX9_needs.cls = RX9 ∧ yX9_needs.cls ≠ "java/lang/invoke/MethodHandle" ∧ yX9_needs.cls ≠ "java/lang/invoke/VarHandle" ∧ (parseMethodDescriptor yX9_needs.desc).map (fun d => d.parameters.length) = some 1 := by decide +kernel
set_option maxHeartbeats 4000000 in
set_option maxRecDepth 100000 in
theorem tX9_cutOf_c5 {k : Nat} {p1 : Int32} {p2 : Int32} (hk : mB N k) (C0 : CallFix p m c cX9_cutOf 6 s args wsX9_cutOf RX9) (hr : meth.sig.returnType = (some .int)) (hlk : meth.locks = false) {out : Int32 × q_M}  : ∀ n : Nat, ∀ (v3 : Int64) (v5 : Int32) (σ : q_M) (H : Heap) (locs : List Loc) (ls : Array Slot), q_H (gM D cI cJ cR ad adK adV N) (q_A (gM D cI cJ cR ad adK adV N) s.heap.size) s σ H locs → lv_has ls 6 [(0, .ref (ad k)), (1, .int p1), (2, .int p2), (3, .long v3), (5, .int v5)] → fX9_cutOf_c5 k p1 p2 n v3 v5 σ = some out → W p l e { frames := 5, cells := 0, slots := 0, locals := 119 } s m args below meth c H locs 0 0 (MQ below (q_Ri (gM D cI cJ cR ad adK adV N) (q_A (gM D cI cJ cR ad adK adV N) s.heap.size) out) args s 0 0 (q_A (gM D cI cJ cR ad adK adV N) s.heap.size)) (F0 m 5 ls []) := by
  obtain ⟨hx, hb, hml, hown, hts⟩ := id C0
  intro n
  induction n with
  | zero =>
    intro v3 v5 σ H locs ls  hw hl h
    cases (show (none : Option (Int32 × q_M)) = some out from h)
  | succ n hrec5 =>
    intro v3 v5 σ H locs ls  hw hl h
    replace h : fX9_cutOf_c5b k p1 p2 (fX9_cutOf_c5 k p1 p2 n) v3 v5 σ = some out := h
    unfold fX9_cutOf_c5b at h
    refine lv_iload hx hb dX9_cutOf_5 (lv_at hl 4 rfl) ?_
    refine lv_aload_n hx hb dX9_cutOf_7 rfl (lv_at hl 0 rfl) ?_
    obtain ⟨o1, hco1, h⟩ := q_bind h
    refine q_calli hw (va_runV (As := []) (rest := [.int v5]) C0 (kX9_many hk hco1 _) (cwV 0 hts gX9_cutOf_X9_many rfl rfl rfl eX9_many ⟨(Nat.le_of_ble_eq_true rfl), (Nat.le_of_ble_eq_true rfl)⟩) ⟨q_blind, q_recv hw (mN_0 hk) (mE_0 hk) rfl, q_pre hw⟩ rfl rfl hl.1 rfl (lv_room (Nat.le_of_ble_eq_true rfl)) dX9_cutOf_8 ⟨Nat.zero_le _, Nat.zero_le _⟩) (fun H locs hw => ?_)
    refine lv_icmp_ge (tgt := 54) hx hb dX9_cutOf_11 (by decide) (fun c2 => ?_) (fun c2 => ?_)
    · replace h := q_t h c2
      refine lv_aload_n hx hb dX9_cutOf_54 rfl (lv_at hl 0 rfl) ?_
      refine lv_lload_n hx hb dX9_cutOf_55 rfl (lv_at hl 3 rfl) ?_
      obtain ⟨o3, hco3, h⟩ := q_bind h
      refine q_calli hw (va_runV (As := [.long v3]) (rest := []) C0 (kX9_needs hk hco3 _) (cwV 1 hts gX9_cutOf_X9_needs rfl rfl rfl eX9_needs ⟨(Nat.le_of_ble_eq_true rfl), (Nat.le_of_ble_eq_true rfl)⟩) ⟨q_blind, q_recv hw (mN_0 hk) (mE_0 hk) rfl, q_pre hw⟩ rfl rfl hl.1 rfl (lv_room (Nat.le_of_ble_eq_true rfl)) dX9_cutOf_56 ⟨Nat.zero_le _, Nat.zero_le _⟩) (fun H locs hw => ?_)
      refine lv_aload_n hx hb dX9_cutOf_59 rfl (lv_at hl 0 rfl) ?_
      refine lv_aload_n hx hb dX9_cutOf_60 rfl (lv_at hl 0 rfl) ?_
      refine gt_X9_12 C0 hw hk iX9_cutOf_X9 (by decide +kernel) dX9_cutOf_61 ?_
      refine lv_lload_n hx hb dX9_cutOf_64 rfl (lv_at hl 3 rfl) ?_
      refine lv_ldc2 (v := (-1 : Int64)) hx hb hown (hts (.constantLong RX9 100 (-1)) (by decide +kernel)) dX9_cutOf_65 ?_
      refine lv_lxor hx hb dX9_cutOf_68 ?_
      refine lv_land hx hb dX9_cutOf_69 ?_
      obtain ⟨o4, hco4, h⟩ := q_bind h
      refine q_calli hw (va_runV (As := [.long ((o3.2.2 k 12) &&& (v3 ^^^ (-1 : Int64)))]) (rest := [.int o3.1]) C0 (kX9_needs hk hco4 _) (cwV 1 hts gX9_cutOf_X9_needs rfl rfl rfl eX9_needs ⟨(Nat.le_of_ble_eq_true rfl), (Nat.le_of_ble_eq_true rfl)⟩) ⟨q_blind, q_recv hw (mN_0 hk) (mE_0 hk) rfl, q_pre hw⟩ rfl rfl hl.1 rfl (lv_room (Nat.le_of_ble_eq_true rfl)) dX9_cutOf_70 ⟨Nat.zero_le _, Nat.zero_le _⟩) (fun H locs hw => ?_)
      refine lv_iadd hx hb dX9_cutOf_73 ?_
      exact q_iret h C0 hr hlk hw dX9_cutOf_74
    · replace h := q_f h c2
      refine lv_lload_n hx hb dX9_cutOf_14 rfl (lv_at hl 3 rfl) ?_
      refine lv_aload_n hx hb dX9_cutOf_15 rfl (lv_at hl 0 rfl) ?_
      refine gt_X9_12 C0 hw hk iX9_cutOf_X9 (by decide +kernel) dX9_cutOf_16 ?_
      refine lv_iload hx hb dX9_cutOf_19 (lv_at hl 4 rfl) ?_
      obtain ⟨o5, hco5, h⟩ := q_bind h
      refine q_calli hw (va_runS (As := [.long (o1.2.2 k 12), .int v5]) (rest := [.long v3]) C0 (kX9_has hco5 _) (va_cwS 2 hts gX9_cutOf_X9_has rfl rfl rfl eX9_has ⟨(Nat.le_of_ble_eq_true rfl), (Nat.le_of_ble_eq_true rfl)⟩) ⟨q_blind, q_pre hw⟩ rfl rfl hl.1 rfl (lv_room (Nat.le_of_ble_eq_true rfl)) dX9_cutOf_21 ⟨Nat.zero_le _, Nat.zero_le _⟩) (fun H locs hw => ?_)
      refine lv_if_eq (tgt := 45) hx hb dX9_cutOf_24 (by decide) (fun c6 => ?_) (fun c6 => ?_)
      · replace h := q_t h c6
        refine lv_lconst (v := (0 : Int64)) hx hb dX9_cutOf_45 (by decide) ?_
        refine lv_lor hx hb dX9_cutOf_46 ?_
        refine lv_lstore_n (lv' := [(3, .long (v3 ||| (0 : Int64))), (0, .ref (ad k)), (1, .int p1), (2, .int p2), (5, .int v5)]) hx hb dX9_cutOf_47 rfl hl (by decide) rfl (fun ls hl => ?_)
        refine lv_iinc (v := (v5 + (1 : Int32))) (lv' := [(5, .int (v5 + (1 : Int32))), (3, .long (v3 ||| (0 : Int64))), (0, .ref (ad k)), (1, .int p1), (2, .int p2)]) hx hb dX9_cutOf_48 hl (k := 4) rfl rfl (by decide) rfl (fun ls hl => ?_)
        refine lv_goto (tgt := 5) hx hb dX9_cutOf_51 (by decide) ?_
        exact hrec5 (v3 ||| (0 : Int64)) (v5 + (1 : Int32)) o5.2 _ _ _ hw (lv_sub hl [2, 3, 4, 1, 0] rfl) h
      · replace h := q_f h c6
        refine lv_aload_n hx hb dX9_cutOf_27 rfl (lv_at hl 0 rfl) ?_
        refine lv_iload hx hb dX9_cutOf_28 (lv_at hl 4 rfl) ?_
        refine lv_iload_n hx hb dX9_cutOf_30 rfl (lv_at hl 1 rfl) ?_
        obtain ⟨o7, hco7, h⟩ := q_bind h
        refine q_calli hw (va_runV (As := [.int v5, .int p1]) (rest := [.long v3]) C0 (kX9_sideOf hk hco7 _) (cwV 2 hts gX9_cutOf_X9_sideOf rfl rfl rfl eX9_sideOf ⟨(Nat.le_of_ble_eq_true rfl), (Nat.le_of_ble_eq_true rfl)⟩) ⟨q_blind, q_recv hw (mN_0 hk) (mE_0 hk) rfl, q_pre hw⟩ rfl rfl hl.1 rfl (lv_room (Nat.le_of_ble_eq_true rfl)) dX9_cutOf_31 ⟨Nat.zero_le _, Nat.zero_le _⟩) (fun H locs hw => ?_)
        refine lv_iload_n hx hb dX9_cutOf_34 rfl (lv_at hl 2 rfl) ?_
        refine lv_icmp_ge (tgt := 45) hx hb dX9_cutOf_35 (by decide) (fun c8 => ?_) (fun c8 => ?_)
        · replace h := q_t h c8
          refine lv_lconst (v := (0 : Int64)) hx hb dX9_cutOf_45 (by decide) ?_
          refine lv_lor hx hb dX9_cutOf_46 ?_
          refine lv_lstore_n (lv' := [(3, .long (v3 ||| (0 : Int64))), (0, .ref (ad k)), (1, .int p1), (2, .int p2), (5, .int v5)]) hx hb dX9_cutOf_47 rfl hl (by decide) rfl (fun ls hl => ?_)
          refine lv_iinc (v := (v5 + (1 : Int32))) (lv' := [(5, .int (v5 + (1 : Int32))), (3, .long (v3 ||| (0 : Int64))), (0, .ref (ad k)), (1, .int p1), (2, .int p2)]) hx hb dX9_cutOf_48 hl (k := 4) rfl rfl (by decide) rfl (fun ls hl => ?_)
          refine lv_goto (tgt := 5) hx hb dX9_cutOf_51 (by decide) ?_
          exact hrec5 (v3 ||| (0 : Int64)) (v5 + (1 : Int32)) o7.2 _ _ _ hw (lv_sub hl [2, 3, 4, 1, 0] rfl) h
        · replace h := q_f h c8
          refine lv_lconst (v := (1 : Int64)) hx hb dX9_cutOf_38 (by decide) ?_
          refine lv_iload hx hb dX9_cutOf_39 (lv_at hl 4 rfl) ?_
          refine lv_lshl (v := (q_shl (1 : Int64) v5)) hx hb dX9_cutOf_41 rfl ?_
          refine lv_goto (tgt := 46) hx hb dX9_cutOf_42 (by decide) ?_
          refine lv_lor hx hb dX9_cutOf_46 ?_
          refine lv_topl (fun x9 e_x9 => ?_)
          replace h := q_let_at e_x9 h
          refine lv_lstore_n (lv' := [(3, .long x9), (0, .ref (ad k)), (1, .int p1), (2, .int p2), (5, .int v5)]) hx hb dX9_cutOf_47 rfl hl (by decide) rfl (fun ls hl => ?_)
          refine lv_iinc (v := (v5 + (1 : Int32))) (lv' := [(5, .int (v5 + (1 : Int32))), (3, .long x9), (0, .ref (ad k)), (1, .int p1), (2, .int p2)]) hx hb dX9_cutOf_48 hl (k := 4) rfl rfl (by decide) rfl (fun ls hl => ?_)
          refine lv_goto (tgt := 5) hx hb dX9_cutOf_51 (by decide) ?_
          exact hrec5 x9 (v5 + (1 : Int32)) o7.2 _ _ _ hw (lv_sub hl [2, 3, 4, 1, 0] rfl) h
set_option maxHeartbeats 4000000 in
set_option maxRecDepth 100000 in
theorem kX9_cutOf {k : Nat} {p1 : Int32} {p2 : Int32} (hk : mB N k) {σ : q_M} {out : Int32 × q_M} (h : fX9_cutOf k p1 p2 σ = some out) : q_Mi l (gM D cI cJ cR ad adK adV N) yX9_cutOf wsX9_cutOf { frames := 5, cells := 0, slots := 0, locals := 119 } [.ref (ad k), .int p1, .int p2] σ out := by
  refine q_Mi_of (cc := cX9_cutOf) (maxL := 6) (ret := (some .int)) (by decide) rfl (Nat.le_of_ble_eq_true rfl) ?_
  intro p e s m below meth c ls C0 hr hlk hl hw
  obtain ⟨hx, hb, hml, hown, hts⟩ := id C0
  replace hl : lv_has ls 6 [(0, .ref (ad k)), (1, .int p1), (2, .int p2)] := hl
  unfold fX9_cutOf at h
  refine lv_lconst (v := (0 : Int64)) hx hb dX9_cutOf_0 (by decide) ?_
  refine lv_lstore_n (lv' := [(3, .long (0 : Int64)), (0, .ref (ad k)), (1, .int p1), (2, .int p2)]) hx hb dX9_cutOf_1 rfl hl (by decide) rfl (fun ls hl => ?_)
  refine lv_iconst (v := (0 : Int32)) hx hb dX9_cutOf_2 (by decide) ?_
  refine lv_istore (lv' := [(5, .int (0 : Int32)), (3, .long (0 : Int64)), (0, .ref (ad k)), (1, .int p1), (2, .int p2)]) hx hb dX9_cutOf_3 hl (by decide) rfl (fun ls hl => ?_)
  exact tX9_cutOf_c5 hk C0 hr hlk q_FU (0 : Int64) (0 : Int32) σ _ _ _ hw (lv_sub hl [2, 3, 4, 1, 0] rfl) h
-- X9_cut cut(II)I
theorem iX9_cut_X9 : ∀ w ∈ wsX90, w ∈ wsX9_cut := by decide +kernel
theorem eX9_cutOf : yX9_cutOf.cls = RX9 ∧ yX9_cutOf.cls ≠ "java/lang/invoke/MethodHandle" ∧ yX9_cutOf.cls ≠ "java/lang/invoke/VarHandle" ∧ (parseMethodDescriptor yX9_cutOf.desc).map (fun d => d.parameters.length) = some 2 := by decide +kernel
set_option maxHeartbeats 4000000 in
set_option maxRecDepth 100000 in
theorem kX9_cut {k : Nat} {p1 : Int32} {p2 : Int32} (hk : mB N k) {σ : q_M} {out : Int32 × q_M} (h : fX9_cut k p1 p2 σ = some out) : q_Mi l (gM D cI cJ cR ad adK adV N) yX9_cut wsX9_cut { frames := 6, cells := 0, slots := 0, locals := 144 } [.ref (ad k), .int p1, .int p2] σ out := by
  refine q_Mi_of (cc := cX9_cut) (maxL := 3) (ret := (some .int)) (by decide) rfl (Nat.le_of_ble_eq_true rfl) ?_
  intro p e s m below meth c ls C0 hr hlk hl hw
  obtain ⟨hx, hb, hml, hown, hts⟩ := id C0
  replace hl : lv_has ls 3 [(0, .ref (ad k)), (1, .int p1), (2, .int p2)] := hl
  unfold fX9_cut at h
  refine lv_iload_n hx hb dX9_cut_0 rfl (lv_at hl 1 rfl) ?_
  refine lv_i2l hx hb dX9_cut_1 rfl ?_
  refine lv_lconst (v := (0 : Int64)) hx hb dX9_cut_2 (by decide) ?_
  refine lv_ldc2 (v := (2 : Int64)) hx hb hown (hts (.constantLong RX9 152 (2)) (by decide +kernel)) dX9_cut_3 ?_
  obtain ⟨o1, hco1, h⟩ := q_bind h
  refine q_calli hw (va_runS (As := [.long p1.toInt64, .long (0 : Int64), .long (2 : Int64)]) (rest := []) C0 (kX9_in hco1 _) (va_cwS 3 hts gX9_cut_X9_in rfl rfl rfl eX9_in ⟨(Nat.le_of_ble_eq_true rfl), (Nat.le_of_ble_eq_true rfl)⟩) ⟨q_blind, q_pre hw⟩ rfl rfl hl.1 rfl (lv_room (Nat.le_of_ble_eq_true rfl)) dX9_cut_6 ⟨Nat.zero_le _, Nat.zero_le _⟩) (fun H locs hw => ?_)
  refine lv_if_eq (tgt := 37) hx hb dX9_cut_9 (by decide) (fun c2 => ?_) (fun c2 => ?_)
  · replace h := q_t h c2
    refine lv_aload_n hx hb dX9_cut_37 rfl (lv_at hl 0 rfl) ?_
    refine lv_bipush (v := (-2 : Int32)) hx hb dX9_cut_38 (by decide) ?_
    obtain ⟨o3, hco3, h⟩ := q_bind h
    refine q_calli hw (va_runV (As := [.int (-2 : Int32)]) (rest := []) C0 (kX9_refuse hk hco3 _) (cwV 1 hts gX9_cut_X9_refuse rfl rfl rfl eX9_refuse ⟨(Nat.le_of_ble_eq_true rfl), (Nat.le_of_ble_eq_true rfl)⟩) ⟨q_blind, q_recv hw (mN_0 hk) (mE_0 hk) rfl, q_pre hw⟩ rfl rfl hl.1 rfl (lv_room (Nat.le_of_ble_eq_true rfl)) dX9_cut_40 ⟨Nat.zero_le _, Nat.zero_le _⟩) (fun H locs hw => ?_)
    exact q_iret h C0 hr hlk hw dX9_cut_43
  · replace h := q_f h c2
    refine lv_iload_n hx hb dX9_cut_12 rfl (lv_at hl 2 rfl) ?_
    refine lv_i2l hx hb dX9_cut_13 rfl ?_
    refine lv_lconst (v := (1 : Int64)) hx hb dX9_cut_14 (by decide) ?_
    refine lv_aload_n hx hb dX9_cut_15 rfl (lv_at hl 0 rfl) ?_
    refine gt_X9_11 C0 hw hk iX9_cut_X9 (by decide +kernel) dX9_cut_16 ?_
    refine lv_iconst (v := (1 : Int32)) hx hb dX9_cut_19 (by decide) ?_
    refine lv_isub hx hb dX9_cut_20 ?_
    refine lv_i2l hx hb dX9_cut_21 rfl ?_
    obtain ⟨o4, hco4, h⟩ := q_bind h
    refine q_calli hw (va_runS (As := [.long p2.toInt64, .long (1 : Int64), .long (((o1.2.1 k 11) - (1 : Int32)).toInt64)]) (rest := []) C0 (kX9_in hco4 _) (va_cwS 3 hts gX9_cut_X9_in rfl rfl rfl eX9_in ⟨(Nat.le_of_ble_eq_true rfl), (Nat.le_of_ble_eq_true rfl)⟩) ⟨q_blind, q_pre hw⟩ rfl rfl hl.1 rfl (lv_room (Nat.le_of_ble_eq_true rfl)) dX9_cut_22 ⟨Nat.zero_le _, Nat.zero_le _⟩) (fun H locs hw => ?_)
    refine lv_if_eq (tgt := 37) hx hb dX9_cut_25 (by decide) (fun c5 => ?_) (fun c5 => ?_)
    · replace h := q_t h c5
      refine lv_aload_n hx hb dX9_cut_37 rfl (lv_at hl 0 rfl) ?_
      refine lv_bipush (v := (-2 : Int32)) hx hb dX9_cut_38 (by decide) ?_
      obtain ⟨o6, hco6, h⟩ := q_bind h
      refine q_calli hw (va_runV (As := [.int (-2 : Int32)]) (rest := []) C0 (kX9_refuse hk hco6 _) (cwV 1 hts gX9_cut_X9_refuse rfl rfl rfl eX9_refuse ⟨(Nat.le_of_ble_eq_true rfl), (Nat.le_of_ble_eq_true rfl)⟩) ⟨q_blind, q_recv hw (mN_0 hk) (mE_0 hk) rfl, q_pre hw⟩ rfl rfl hl.1 rfl (lv_room (Nat.le_of_ble_eq_true rfl)) dX9_cut_40 ⟨Nat.zero_le _, Nat.zero_le _⟩) (fun H locs hw => ?_)
      exact q_iret h C0 hr hlk hw dX9_cut_43
    · replace h := q_f h c5
      refine lv_aload_n hx hb dX9_cut_28 rfl (lv_at hl 0 rfl) ?_
      refine lv_iload_n hx hb dX9_cut_29 rfl (lv_at hl 1 rfl) ?_
      refine lv_iload_n hx hb dX9_cut_30 rfl (lv_at hl 2 rfl) ?_
      obtain ⟨o7, hco7, h⟩ := q_bind h
      refine q_calli hw (va_runV (As := [.int p1, .int p2]) (rest := []) C0 (kX9_cutOf hk hco7 _) (cwV 2 hts gX9_cut_X9_cutOf rfl rfl rfl eX9_cutOf ⟨(Nat.le_of_ble_eq_true rfl), (Nat.le_of_ble_eq_true rfl)⟩) ⟨q_blind, q_recv hw (mN_0 hk) (mE_0 hk) rfl, q_pre hw⟩ rfl rfl hl.1 rfl (lv_room (Nat.le_of_ble_eq_true rfl)) dX9_cut_31 ⟨Nat.zero_le _, Nat.zero_le _⟩) (fun H locs hw => ?_)
      refine lv_goto (tgt := 43) hx hb dX9_cut_34 (by decide) ?_
      exact q_iret h C0 hr hlk hw dX9_cut_43
-- X9_best best()I
theorem iX9_best_X9 : ∀ w ∈ wsX90, w ∈ wsX9_best := by decide +kernel
set_option maxHeartbeats 4000000 in
set_option maxRecDepth 100000 in
theorem tX9_best_c14 {k : Nat} {rec6 : Int32 → Int32 → Int32 → q_M → Option (Int32 × q_M)} (hk : mB N k) (C0 : CallFix p m c cX9_best 6 s args wsX9_best RX9) (hr : meth.sig.returnType = (some .int)) (hlk : meth.locks = false) {out : Int32 × q_M} (hrec6 : ∀ (v1 : Int32) (v2 : Int32) (v3 : Int32) (σ : q_M) (H : Heap) (locs : List Loc) (ls : Array Slot), q_H (gM D cI cJ cR ad adK adV N) (q_A (gM D cI cJ cR ad adK adV N) s.heap.size) s σ H locs → lv_has ls 6 [(0, .ref (ad k)), (1, .int v1), (2, .int v2), (3, .int v3)] → rec6 v1 v2 v3 σ = some out → W p l e { frames := 6, cells := 0, slots := 0, locals := 144 } s m args below meth c H locs 0 0 (MQ below (q_Ri (gM D cI cJ cR ad adK adV N) (q_A (gM D cI cJ cR ad adK adV N) s.heap.size) out) args s 0 0 (q_A (gM D cI cJ cR ad adK adV N) s.heap.size)) (F0 m 6 ls [])) : ∀ n : Nat, ∀ (v1 : Int32) (v2 : Int32) (v3 : Int32) (v4 : Int32) (σ : q_M) (H : Heap) (locs : List Loc) (ls : Array Slot), q_H (gM D cI cJ cR ad adK adV N) (q_A (gM D cI cJ cR ad adK adV N) s.heap.size) s σ H locs → lv_has ls 6 [(0, .ref (ad k)), (1, .int v1), (2, .int v2), (3, .int v3), (4, .int v4)] → fX9_best_c14 k rec6 n v1 v2 v3 v4 σ = some out → W p l e { frames := 6, cells := 0, slots := 0, locals := 144 } s m args below meth c H locs 0 0 (MQ below (q_Ri (gM D cI cJ cR ad adK adV N) (q_A (gM D cI cJ cR ad adK adV N) s.heap.size) out) args s 0 0 (q_A (gM D cI cJ cR ad adK adV N) s.heap.size)) (F0 m 14 ls []) := by
  obtain ⟨hx, hb, hml, hown, hts⟩ := id C0
  intro n
  induction n with
  | zero =>
    intro v1 v2 v3 v4 σ H locs ls  hw hl h
    cases (show (none : Option (Int32 × q_M)) = some out from h)
  | succ n hrec14 =>
    intro v1 v2 v3 v4 σ H locs ls  hw hl h
    replace h : fX9_best_c14b k rec6 (fX9_best_c14 k rec6 n) v1 v2 v3 v4 σ = some out := h
    unfold fX9_best_c14b at h
    refine lv_iload hx hb dX9_best_14 (lv_at hl 4 rfl) ?_
    refine lv_aload_n hx hb dX9_best_16 rfl (lv_at hl 0 rfl) ?_
    refine gt_X9_11 C0 hw hk iX9_best_X9 (by decide +kernel) dX9_best_17 ?_
    refine lv_icmp_ge (tgt := 60) hx hb dX9_best_20 (by decide) (fun c1 => ?_) (fun c1 => ?_)
    · replace h := q_t h c1
      refine lv_iinc (v := (v3 + (1 : Int32))) (lv' := [(3, .int (v3 + (1 : Int32))), (0, .ref (ad k)), (1, .int v1), (2, .int v2), (4, .int v4)]) hx hb dX9_best_60 hl (k := 3) rfl rfl (by decide) rfl (fun ls hl => ?_)
      refine lv_goto (tgt := 6) hx hb dX9_best_63 (by decide) ?_
      exact hrec6 v1 v2 (v3 + (1 : Int32)) σ _ _ _ hw (lv_sub hl [1, 2, 3, 0] rfl) h
    · replace h := q_f h c1
      refine lv_aload_n hx hb dX9_best_23 rfl (lv_at hl 0 rfl) ?_
      refine lv_iload_n hx hb dX9_best_24 rfl (lv_at hl 3 rfl) ?_
      refine lv_iload hx hb dX9_best_25 (lv_at hl 4 rfl) ?_
      obtain ⟨o2, hco2, h⟩ := q_bind h
      refine q_calli hw (va_runV (As := [.int v3, .int v4]) (rest := []) C0 (kX9_cutOf hk hco2 _) (cwV 2 hts gX9_best_X9_cutOf rfl rfl rfl eX9_cutOf ⟨(Nat.le_of_ble_eq_true rfl), (Nat.le_of_ble_eq_true rfl)⟩) ⟨q_blind, q_recv hw (mN_0 hk) (mE_0 hk) rfl, q_pre hw⟩ rfl rfl hl.1 rfl (lv_room (Nat.le_of_ble_eq_true rfl)) dX9_best_27 ⟨Nat.zero_le _, Nat.zero_le _⟩) (fun H locs hw => ?_)
      refine lv_istore (lv' := [(5, .int o2.1), (0, .ref (ad k)), (1, .int v1), (2, .int v2), (3, .int v3), (4, .int v4)]) hx hb dX9_best_30 hl (by decide) rfl (fun ls hl => ?_)
      refine lv_iload_n hx hb dX9_best_32 rfl (lv_at hl 2 rfl) ?_
      refine lv_iconst (v := (-1 : Int32)) hx hb dX9_best_33 (by decide) ?_
      refine lv_icmp_eq (tgt := 43) hx hb dX9_best_34 (by decide) (fun c3 => ?_) (fun c3 => ?_)
      · replace h := q_t h c3
        refine lv_bipush (v := (10 : Int32)) hx hb dX9_best_43 (by decide) ?_
        refine lv_iload_n hx hb dX9_best_45 rfl (lv_at hl 4 rfl) ?_
        refine lv_imul hx hb dX9_best_46 ?_
        refine lv_iload hx hb dX9_best_47 (lv_at hl 5 rfl) ?_
        refine lv_iadd hx hb dX9_best_49 ?_
        refine lv_istore_n (lv' := [(1, .int (((10 : Int32) * v3) + v4)), (5, .int o2.1), (0, .ref (ad k)), (2, .int v2), (3, .int v3), (4, .int v4)]) hx hb dX9_best_50 rfl hl (by decide) rfl (fun ls hl => ?_)
        refine lv_iload hx hb dX9_best_51 (lv_at hl 1 rfl) ?_
        refine lv_istore_n (lv' := [(2, .int o2.1), (1, .int (((10 : Int32) * v3) + v4)), (5, .int o2.1), (0, .ref (ad k)), (3, .int v3), (4, .int v4)]) hx hb dX9_best_53 rfl hl (by decide) rfl (fun ls hl => ?_)
        refine lv_iinc (v := (v4 + (1 : Int32))) (lv' := [(4, .int (v4 + (1 : Int32))), (2, .int o2.1), (1, .int (((10 : Int32) * v3) + v4)), (5, .int o2.1), (0, .ref (ad k)), (3, .int v3)]) hx hb dX9_best_54 hl (k := 5) rfl rfl (by decide) rfl (fun ls hl => ?_)
        refine lv_goto (tgt := 14) hx hb dX9_best_57 (by decide) ?_
        exact hrec14 (((10 : Int32) * v3) + v4) o2.1 v3 (v4 + (1 : Int32)) o2.2 _ _ _ hw (lv_sub hl [4, 2, 1, 5, 0] rfl) h
      · replace h := q_f h c3
        refine lv_iload hx hb dX9_best_37 (lv_at hl 0 rfl) ?_
        refine lv_iload_n hx hb dX9_best_39 rfl (lv_at hl 3 rfl) ?_
        refine lv_icmp_ge (tgt := 54) hx hb dX9_best_40 (by decide) (fun c4 => ?_) (fun c4 => ?_)
        · replace h := q_t h c4
          refine lv_iinc (v := (v4 + (1 : Int32))) (lv' := [(4, .int (v4 + (1 : Int32))), (5, .int o2.1), (0, .ref (ad k)), (1, .int v1), (2, .int v2), (3, .int v3)]) hx hb dX9_best_54 hl (k := 5) rfl rfl (by decide) rfl (fun ls hl => ?_)
          refine lv_goto (tgt := 14) hx hb dX9_best_57 (by decide) ?_
          exact hrec14 v1 v2 v3 (v4 + (1 : Int32)) o2.2 _ _ _ hw (lv_sub hl [2, 3, 4, 5, 0] rfl) h
        · replace h := q_f h c4
          refine lv_bipush (v := (10 : Int32)) hx hb dX9_best_43 (by decide) ?_
          refine lv_iload_n hx hb dX9_best_45 rfl (lv_at hl 4 rfl) ?_
          refine lv_imul hx hb dX9_best_46 ?_
          refine lv_iload hx hb dX9_best_47 (lv_at hl 5 rfl) ?_
          refine lv_iadd hx hb dX9_best_49 ?_
          refine lv_istore_n (lv' := [(1, .int (((10 : Int32) * v3) + v4)), (5, .int o2.1), (0, .ref (ad k)), (2, .int v2), (3, .int v3), (4, .int v4)]) hx hb dX9_best_50 rfl hl (by decide) rfl (fun ls hl => ?_)
          refine lv_iload hx hb dX9_best_51 (lv_at hl 1 rfl) ?_
          refine lv_istore_n (lv' := [(2, .int o2.1), (1, .int (((10 : Int32) * v3) + v4)), (5, .int o2.1), (0, .ref (ad k)), (3, .int v3), (4, .int v4)]) hx hb dX9_best_53 rfl hl (by decide) rfl (fun ls hl => ?_)
          refine lv_iinc (v := (v4 + (1 : Int32))) (lv' := [(4, .int (v4 + (1 : Int32))), (2, .int o2.1), (1, .int (((10 : Int32) * v3) + v4)), (5, .int o2.1), (0, .ref (ad k)), (3, .int v3)]) hx hb dX9_best_54 hl (k := 5) rfl rfl (by decide) rfl (fun ls hl => ?_)
          refine lv_goto (tgt := 14) hx hb dX9_best_57 (by decide) ?_
          exact hrec14 (((10 : Int32) * v3) + v4) o2.1 v3 (v4 + (1 : Int32)) o2.2 _ _ _ hw (lv_sub hl [4, 2, 1, 5, 0] rfl) h
set_option maxHeartbeats 4000000 in
set_option maxRecDepth 100000 in
theorem tX9_best_c6 {k : Nat} (hk : mB N k) (C0 : CallFix p m c cX9_best 6 s args wsX9_best RX9) (hr : meth.sig.returnType = (some .int)) (hlk : meth.locks = false) {out : Int32 × q_M}  : ∀ n : Nat, ∀ (v1 : Int32) (v2 : Int32) (v3 : Int32) (σ : q_M) (H : Heap) (locs : List Loc) (ls : Array Slot), q_H (gM D cI cJ cR ad adK adV N) (q_A (gM D cI cJ cR ad adK adV N) s.heap.size) s σ H locs → lv_has ls 6 [(0, .ref (ad k)), (1, .int v1), (2, .int v2), (3, .int v3)] → fX9_best_c6 k n v1 v2 v3 σ = some out → W p l e { frames := 6, cells := 0, slots := 0, locals := 144 } s m args below meth c H locs 0 0 (MQ below (q_Ri (gM D cI cJ cR ad adK adV N) (q_A (gM D cI cJ cR ad adK adV N) s.heap.size) out) args s 0 0 (q_A (gM D cI cJ cR ad adK adV N) s.heap.size)) (F0 m 6 ls []) := by
  obtain ⟨hx, hb, hml, hown, hts⟩ := id C0
  intro n
  induction n with
  | zero =>
    intro v1 v2 v3 σ H locs ls  hw hl h
    cases (show (none : Option (Int32 × q_M)) = some out from h)
  | succ n hrec6 =>
    intro v1 v2 v3 σ H locs ls  hw hl h
    replace h : fX9_best_c6b k (fX9_best_c6 k n) v1 v2 v3 σ = some out := h
    unfold fX9_best_c6b at h
    refine lv_iload_n hx hb dX9_best_6 rfl (lv_at hl 3 rfl) ?_
    refine lv_iconst (v := (3 : Int32)) hx hb dX9_best_7 (by decide) ?_
    refine lv_icmp_ge (tgt := 66) hx hb dX9_best_8 (by decide) (fun c1 => ?_) (fun c1 => ?_)
    · replace h := q_t h c1
      refine lv_iload_n hx hb dX9_best_66 rfl (lv_at hl 1 rfl) ?_
      exact q_iret h C0 hr hlk hw dX9_best_67
    · replace h := q_f h c1
      refine lv_iconst (v := (1 : Int32)) hx hb dX9_best_11 (by decide) ?_
      refine lv_istore (lv' := [(4, .int (1 : Int32)), (0, .ref (ad k)), (1, .int v1), (2, .int v2), (3, .int v3)]) hx hb dX9_best_12 hl (by decide) rfl (fun ls hl => ?_)
      exact tX9_best_c14 hk C0 hr hlk hrec6 q_FU v1 v2 v3 (1 : Int32) σ _ _ _ hw (lv_sub hl [1, 2, 3, 4, 0] rfl) h
set_option maxHeartbeats 4000000 in
set_option maxRecDepth 100000 in
theorem kX9_best {k : Nat} (hk : mB N k) {σ : q_M} {out : Int32 × q_M} (h : fX9_best k σ = some out) : q_Mi l (gM D cI cJ cR ad adK adV N) yX9_best wsX9_best { frames := 6, cells := 0, slots := 0, locals := 144 } [.ref (ad k)] σ out := by
  refine q_Mi_of (cc := cX9_best) (maxL := 6) (ret := (some .int)) (by decide) rfl (Nat.le_of_ble_eq_true rfl) ?_
  intro p e s m below meth c ls C0 hr hlk hl hw
  obtain ⟨hx, hb, hml, hown, hts⟩ := id C0
  replace hl : lv_has ls 6 [(0, .ref (ad k))] := hl
  unfold fX9_best at h
  refine lv_iconst (v := (-1 : Int32)) hx hb dX9_best_0 (by decide) ?_
  refine lv_istore_n (lv' := [(1, .int (-1 : Int32)), (0, .ref (ad k))]) hx hb dX9_best_1 rfl hl (by decide) rfl (fun ls hl => ?_)
  refine lv_iconst (v := (0 : Int32)) hx hb dX9_best_2 (by decide) ?_
  refine lv_istore_n (lv' := [(2, .int (0 : Int32)), (1, .int (-1 : Int32)), (0, .ref (ad k))]) hx hb dX9_best_3 rfl hl (by decide) rfl (fun ls hl => ?_)
  refine lv_iconst (v := (0 : Int32)) hx hb dX9_best_4 (by decide) ?_
  refine lv_istore_n (lv' := [(3, .int (0 : Int32)), (2, .int (0 : Int32)), (1, .int (-1 : Int32)), (0, .ref (ad k))]) hx hb dX9_best_5 rfl hl (by decide) rfl (fun ls hl => ?_)
  exact tX9_best_c6 hk C0 hr hlk q_FU (-1 : Int32) (0 : Int32) (0 : Int32) σ _ _ _ hw (lv_sub hl [3, 2, 1, 0] rfl) h
-- X9_slide slide(IJI)J
theorem iX9_slide_X9 : ∀ w ∈ wsX90, w ∈ wsX9_slide := by decide +kernel
set_option maxHeartbeats 4000000 in
set_option maxRecDepth 100000 in
theorem tX9_slide_c92 {k : Nat} {p1 : Int32} {p2 : Int64} {p4 : Int32} (hk : mB N k) (C0 : CallFix p m c cX9_slide 10 s args wsX9_slide RX9) (hr : meth.sig.returnType = (some .long)) (hlk : meth.locks = false) {out : Int64 × q_M}  : ∀ n : Nat, ∀ (v6 : Int32) (v7 : Int64) (v9 : Int32) (σ : q_M) (H : Heap) (locs : List Loc) (ls : Array Slot), q_H (gM D cI cJ cR ad adK adV N) (q_A (gM D cI cJ cR ad adK adV N) s.heap.size) s σ H locs → lv_has ls 10 [(0, .ref (ad k)), (1, .int p1), (4, .int p4), (6, .int v6), (7, .long v7), (9, .int v9)] → fX9_slide_c92 k p1 p2 p4 n v6 v7 v9 σ = some out → W p l e { frames := 3, cells := 0, slots := 0, locals := 73 } s m args below meth c H locs 0 0 (MQ below (q_Rl (gM D cI cJ cR ad adK adV N) (q_A (gM D cI cJ cR ad adK adV N) s.heap.size) out) args s 0 0 (q_A (gM D cI cJ cR ad adK adV N) s.heap.size)) (F0 m 92 ls []) := by
  obtain ⟨hx, hb, hml, hown, hts⟩ := id C0
  intro n
  induction n with
  | zero =>
    intro v6 v7 v9 σ H locs ls  hw hl h
    cases (show (none : Option (Int64 × q_M)) = some out from h)
  | succ n hrec92 =>
    intro v6 v7 v9 σ H locs ls  hw hl h
    replace h : fX9_slide_c92b k p1 p2 p4 (fX9_slide_c92 k p1 p2 p4 n) v6 v7 v9 σ = some out := h
    unfold fX9_slide_c92b at h
    refine lv_iload hx hb dX9_slide_92 (lv_at hl 5 rfl) ?_
    refine lv_iload hx hb dX9_slide_94 (lv_at hl 2 rfl) ?_
    refine lv_icmp_ge (tgt := 135) hx hb dX9_slide_96 (by decide) (fun c1 => ?_) (fun c1 => ?_)
    · replace h := q_t h c1
      refine lv_lload hx hb dX9_slide_135 (lv_at hl 4 rfl) ?_
      exact q_lret h C0 hr hlk hw dX9_slide_137
    · replace h := q_f h c1
      refine lv_aload_n hx hb dX9_slide_99 rfl (lv_at hl 0 rfl) ?_
      refine lv_lload hx hb dX9_slide_100 (lv_at hl 4 rfl) ?_
      refine lv_iload hx hb dX9_slide_102 (lv_at hl 5 rfl) ?_
      refine lv_iload hx hb dX9_slide_104 (lv_at hl 3 rfl) ?_
      refine lv_icmp_ge (tgt := 118) hx hb dX9_slide_106 (by decide) (fun c2 => ?_) (fun c2 => ?_)
      · replace h := q_t h c2
        refine lv_aload_n hx hb dX9_slide_118 rfl (lv_at hl 0 rfl) ?_
        refine gt_X9_7 C0 hw hk iX9_slide_X9 (by decide +kernel) dX9_slide_119 ?_
        refine lv_iload_n hx hb dX9_slide_122 rfl (lv_at hl 1 rfl) ?_
        obtain ⟨b3, h⟩ := q_if h
        refine q_iald (t0 := 0) C0 hw (mN_8 hk) (mE_8 hk) rfl b3 dX9_slide_123 ?_
        obtain ⟨o4, hco4, h⟩ := q_bind h
        refine q_calll hw (va_runV (As := [.long v7, .int (σ.1 (k + 8) p1.toNatClampNeg)]) (rest := []) C0 (kX9_onFrom hk hco4 _) (cwV 2 hts gX9_slide_X9_onFrom rfl rfl rfl eX9_onFrom ⟨(Nat.le_of_ble_eq_true rfl), (Nat.le_of_ble_eq_true rfl)⟩) ⟨q_blind, q_recv hw (mN_0 hk) (mE_0 hk) rfl, q_pre hw⟩ rfl rfl hl.1 rfl (lv_room (Nat.le_of_ble_eq_true rfl)) dX9_slide_124 ⟨Nat.zero_le _, Nat.zero_le _⟩) (fun H locs hw => ?_)
        refine lv_lstore (lv' := [(7, .long o4.1), (0, .ref (ad k)), (1, .int p1), (4, .int p4), (6, .int v6), (9, .int v9)]) hx hb dX9_slide_127 hl (by decide) rfl (fun ls hl => ?_)
        refine lv_iinc (v := (v9 + (1 : Int32))) (lv' := [(9, .int (v9 + (1 : Int32))), (7, .long o4.1), (0, .ref (ad k)), (1, .int p1), (4, .int p4), (6, .int v6)]) hx hb dX9_slide_129 hl (k := 5) rfl rfl (by decide) rfl (fun ls hl => ?_)
        refine lv_goto (tgt := 92) hx hb dX9_slide_132 (by decide) ?_
        exact hrec92 v6 o4.1 (v9 + (1 : Int32)) o4.2 _ _ _ hw (lv_sub hl [2, 3, 4, 5, 1, 0] rfl) h
      · replace h := q_f h c2
        refine lv_aload_n hx hb dX9_slide_109 rfl (lv_at hl 0 rfl) ?_
        refine gt_X9_6 C0 hw hk iX9_slide_X9 (by decide +kernel) dX9_slide_110 ?_
        refine lv_iload_n hx hb dX9_slide_113 rfl (lv_at hl 1 rfl) ?_
        obtain ⟨b5, h⟩ := q_if h
        refine q_iald (t0 := 0) C0 hw (mN_7 hk) (mE_7 hk) rfl b5 dX9_slide_114 ?_
        refine lv_goto (tgt := 124) hx hb dX9_slide_115 (by decide) ?_
        obtain ⟨o6, hco6, h⟩ := q_bind h
        refine q_calll hw (va_runV (As := [.long v7, .int (σ.1 (k + 7) p1.toNatClampNeg)]) (rest := []) C0 (kX9_onFrom hk hco6 _) (cwV 2 hts gX9_slide_X9_onFrom rfl rfl rfl eX9_onFrom ⟨(Nat.le_of_ble_eq_true rfl), (Nat.le_of_ble_eq_true rfl)⟩) ⟨q_blind, q_recv hw (mN_0 hk) (mE_0 hk) rfl, q_pre hw⟩ rfl rfl hl.1 rfl (lv_room (Nat.le_of_ble_eq_true rfl)) dX9_slide_124 ⟨Nat.zero_le _, Nat.zero_le _⟩) (fun H locs hw => ?_)
        refine lv_lstore (lv' := [(7, .long o6.1), (0, .ref (ad k)), (1, .int p1), (4, .int p4), (6, .int v6), (9, .int v9)]) hx hb dX9_slide_127 hl (by decide) rfl (fun ls hl => ?_)
        refine lv_iinc (v := (v9 + (1 : Int32))) (lv' := [(9, .int (v9 + (1 : Int32))), (7, .long o6.1), (0, .ref (ad k)), (1, .int p1), (4, .int p4), (6, .int v6)]) hx hb dX9_slide_129 hl (k := 5) rfl rfl (by decide) rfl (fun ls hl => ?_)
        refine lv_goto (tgt := 92) hx hb dX9_slide_132 (by decide) ?_
        exact hrec92 v6 o6.1 (v9 + (1 : Int32)) o6.2 _ _ _ hw (lv_sub hl [2, 3, 4, 5, 1, 0] rfl) h
set_option maxHeartbeats 4000000 in
set_option maxRecDepth 100000 in
theorem tX9_slide_c79 {k : Nat} {p1 : Int32} {p2 : Int64} {p4 : Int32} (hk : mB N k) (C0 : CallFix p m c cX9_slide 10 s args wsX9_slide RX9) (hr : meth.sig.returnType = (some .long)) (hlk : meth.locks = false) {out : Int64 × q_M}  : ∀ (s0 : Int32) (σ : q_M) (H : Heap) (locs : List Loc) (ls : Array Slot), q_H (gM D cI cJ cR ad adK adV N) (q_A (gM D cI cJ cR ad adK adV N) s.heap.size) s σ H locs → lv_has ls 10 [(0, .ref (ad k)), (1, .int p1), (2, .long p2), (4, .int p4)] → fX9_slide_c79 k p1 p2 p4 s0 σ = some out → W p l e { frames := 3, cells := 0, slots := 0, locals := 73 } s m args below meth c H locs 0 0 (MQ below (q_Rl (gM D cI cJ cR ad adK adV N) (q_A (gM D cI cJ cR ad adK adV N) s.heap.size) out) args s 0 0 (q_A (gM D cI cJ cR ad adK adV N) s.heap.size)) (F0 m 79 ls [.int s0]) := by
  obtain ⟨hx, hb, hml, hown, hts⟩ := id C0
  intro s0 σ H locs ls  hw hl h
  unfold fX9_slide_c79 at h
  refine lv_istore (lv' := [(6, .int s0), (0, .ref (ad k)), (1, .int p1), (2, .long p2), (4, .int p4)]) hx hb dX9_slide_79 hl (by decide) rfl (fun ls hl => ?_)
  refine lv_lload_n hx hb dX9_slide_81 rfl (lv_at hl 3 rfl) ?_
  refine lv_aload_n hx hb dX9_slide_82 rfl (lv_at hl 1 rfl) ?_
  obtain ⟨o1, hco1, h⟩ := q_bind h
  refine q_calll hw (va_runV (As := []) (rest := [.long p2]) C0 (kX9_block hk hco1 _) (cwV 0 hts gX9_slide_X9_block rfl rfl rfl eX9_block ⟨(Nat.le_of_ble_eq_true rfl), (Nat.le_of_ble_eq_true rfl)⟩) ⟨q_blind, q_recv hw (mN_0 hk) (mE_0 hk) rfl, q_pre hw⟩ rfl rfl hl.1 rfl (lv_room (Nat.le_of_ble_eq_true rfl)) dX9_slide_83 ⟨Nat.zero_le _, Nat.zero_le _⟩) (fun H locs hw => ?_)
  refine lv_land hx hb dX9_slide_86 ?_
  refine lv_lstore (lv' := [(7, .long (p2 &&& o1.1)), (6, .int s0), (0, .ref (ad k)), (1, .int p1), (2, .long p2), (4, .int p4)]) hx hb dX9_slide_87 hl (by decide) rfl (fun ls hl => ?_)
  refine lv_iconst (v := (0 : Int32)) hx hb dX9_slide_89 (by decide) ?_
  refine lv_istore (lv' := [(9, .int (0 : Int32)), (7, .long (p2 &&& o1.1)), (6, .int s0), (0, .ref (ad k)), (1, .int p1), (2, .long p2), (4, .int p4)]) hx hb dX9_slide_90 hl (by decide) rfl (fun ls hl => ?_)
  exact tX9_slide_c92 hk C0 hr hlk q_FU s0 (p2 &&& o1.1) (0 : Int32) o1.2 _ _ _ hw (lv_sub hl [3, 4, 6, 2, 1, 0] rfl) h
set_option maxHeartbeats 4000000 in
set_option maxRecDepth 100000 in
theorem kX9_slide {k : Nat} {p1 : Int32} {p2 : Int64} {p4 : Int32} (hk : mB N k) {σ : q_M} {out : Int64 × q_M} (h : fX9_slide k p1 p2 p4 σ = some out) : q_Ml l (gM D cI cJ cR ad adK adV N) yX9_slide wsX9_slide { frames := 3, cells := 0, slots := 0, locals := 73 } [.ref (ad k), .int p1, .long p2, .int p4] σ out := by
  refine q_Ml_of (cc := cX9_slide) (maxL := 10) (ret := (some .long)) (by decide) rfl (Nat.le_of_ble_eq_true rfl) ?_
  intro p e s m below meth c ls C0 hr hlk hl hw
  obtain ⟨hx, hb, hml, hown, hts⟩ := id C0
  replace hl : lv_has ls 10 [(0, .ref (ad k)), (1, .int p1), (2, .long p2), (4, .int p4)] := hl
  unfold fX9_slide at h
  refine lv_iload_n hx hb dX9_slide_0 rfl (lv_at hl 1 rfl) ?_
  refine lv_i2l hx hb dX9_slide_1 rfl ?_
  refine lv_lconst (v := (0 : Int64)) hx hb dX9_slide_2 (by decide) ?_
  refine lv_ldc2 (v := (7 : Int64)) hx hb hown (hts (.constantLong RX9 118 (7)) (by decide +kernel)) dX9_slide_3 ?_
  obtain ⟨o1, hco1, h⟩ := q_bind h
  refine q_calli hw (va_runS (As := [.long p1.toInt64, .long (0 : Int64), .long (7 : Int64)]) (rest := []) C0 (kX9_in hco1 _) (va_cwS 3 hts gX9_slide_X9_in rfl rfl rfl eX9_in ⟨(Nat.le_of_ble_eq_true rfl), (Nat.le_of_ble_eq_true rfl)⟩) ⟨q_blind, q_pre hw⟩ rfl rfl hl.1 rfl (lv_room (Nat.le_of_ble_eq_true rfl)) dX9_slide_6 ⟨Nat.zero_le _, Nat.zero_le _⟩) (fun H locs hw => ?_)
  refine lv_if_eq (tgt := 25) hx hb dX9_slide_9 (by decide) (fun c2 => ?_) (fun c2 => ?_)
  · replace h := q_t h c2
    refine lv_aload_n hx hb dX9_slide_25 rfl (lv_at hl 0 rfl) ?_
    refine lv_bipush (v := (-2 : Int32)) hx hb dX9_slide_26 (by decide) ?_
    obtain ⟨o3, hco3, h⟩ := q_bind h
    refine q_calli hw (va_runV (As := [.int (-2 : Int32)]) (rest := []) C0 (kX9_refuse hk hco3 _) (cwV 1 hts gX9_slide_X9_refuse rfl rfl rfl eX9_refuse ⟨(Nat.le_of_ble_eq_true rfl), (Nat.le_of_ble_eq_true rfl)⟩) ⟨q_blind, q_recv hw (mN_0 hk) (mE_0 hk) rfl, q_pre hw⟩ rfl rfl hl.1 rfl (lv_room (Nat.le_of_ble_eq_true rfl)) dX9_slide_28 ⟨Nat.zero_le _, Nat.zero_le _⟩) (fun H locs hw => ?_)
    refine lv_i2l hx hb dX9_slide_31 rfl ?_
    exact q_lret h C0 hr hlk hw dX9_slide_32
  · replace h := q_f h c2
    refine lv_iload hx hb dX9_slide_12 (lv_at hl 3 rfl) ?_
    refine lv_i2l hx hb dX9_slide_14 rfl ?_
    refine lv_lconst (v := (0 : Int64)) hx hb dX9_slide_15 (by decide) ?_
    refine lv_ldc2 (v := (9 : Int64)) hx hb hown (hts (.constantLong RX9 172 (9)) (by decide +kernel)) dX9_slide_16 ?_
    obtain ⟨o4, hco4, h⟩ := q_bind h
    refine q_calli hw (va_runS (As := [.long p4.toInt64, .long (0 : Int64), .long (9 : Int64)]) (rest := []) C0 (kX9_in hco4 _) (va_cwS 3 hts gX9_slide_X9_in rfl rfl rfl eX9_in ⟨(Nat.le_of_ble_eq_true rfl), (Nat.le_of_ble_eq_true rfl)⟩) ⟨q_blind, q_pre hw⟩ rfl rfl hl.1 rfl (lv_room (Nat.le_of_ble_eq_true rfl)) dX9_slide_19 ⟨Nat.zero_le _, Nat.zero_le _⟩) (fun H locs hw => ?_)
    refine lv_if_ne (tgt := 33) hx hb dX9_slide_22 (by decide) (fun c5 => ?_) (fun c5 => ?_)
    · replace h := q_f h c5
      refine lv_aload_n hx hb dX9_slide_33 rfl (lv_at hl 0 rfl) ?_
      refine lv_iload_n hx hb dX9_slide_34 rfl (lv_at hl 1 rfl) ?_
      obtain ⟨o6, hco6, h⟩ := q_bind h
      refine q_calli hw (va_runV (As := [.int p1]) (rest := []) C0 (kX9_noMove hk hco6 _) (cwV 1 hts gX9_slide_X9_noMove rfl rfl rfl eX9_noMove ⟨(Nat.le_of_ble_eq_true rfl), (Nat.le_of_ble_eq_true rfl)⟩) ⟨q_blind, q_recv hw (mN_0 hk) (mE_0 hk) rfl, q_pre hw⟩ rfl rfl hl.1 rfl (lv_room (Nat.le_of_ble_eq_true rfl)) dX9_slide_35 ⟨Nat.zero_le _, Nat.zero_le _⟩) (fun H locs hw => ?_)
      refine lv_istore (lv' := [(5, .int o6.1), (0, .ref (ad k)), (1, .int p1), (2, .long p2), (4, .int p4)]) hx hb dX9_slide_38 hl (by decide) rfl (fun ls hl => ?_)
      refine lv_iload hx hb dX9_slide_40 (lv_at hl 0 rfl) ?_
      refine lv_if_eq (tgt := 49) hx hb dX9_slide_42 (by decide) (fun c7 => ?_) (fun c7 => ?_)
      · replace h := q_t h c7
        refine lv_aload_n hx hb dX9_slide_49 rfl (lv_at hl 1 rfl) ?_
        refine gt_X9_5 C0 hw hk iX9_slide_X9 (by decide +kernel) dX9_slide_50 ?_
        refine lv_iload_n hx hb dX9_slide_53 rfl (lv_at hl 2 rfl) ?_
        obtain ⟨b8, h⟩ := q_if h
        refine q_iald (t0 := 0) C0 hw (mN_6 hk) (mE_6 hk) rfl b8 dX9_slide_54 ?_
        refine lv_iconst (v := (2 : Int32)) hx hb dX9_slide_55 (by decide) ?_
        refine lv_icmp_ne (tgt := 63) hx hb dX9_slide_56 (by decide) (fun c9 => ?_) (fun c9 => ?_)
        · replace h := q_f h c9
          refine lv_aload_n hx hb dX9_slide_63 rfl (lv_at hl 1 rfl) ?_
          refine gt_X9_5 C0 hw hk iX9_slide_X9 (by decide +kernel) dX9_slide_64 ?_
          refine lv_iload_n hx hb dX9_slide_67 rfl (lv_at hl 2 rfl) ?_
          obtain ⟨b10, h⟩ := q_if h
          refine q_iald (t0 := 0) C0 hw (mN_6 hk) (mE_6 hk) rfl b10 dX9_slide_68 ?_
          refine lv_iconst (v := (5 : Int32)) hx hb dX9_slide_69 (by decide) ?_
          refine lv_icmp_ne (tgt := 77) hx hb dX9_slide_70 (by decide) (fun c11 => ?_) (fun c11 => ?_)
          · replace h := q_f h c11
            refine lv_bipush (v := (9 : Int32)) hx hb dX9_slide_77 (by decide) ?_
            exact tX9_slide_c79 hk C0 hr hlk (9 : Int32) o6.2 _ _ _ hw (lv_sub hl [1, 2, 3, 4] rfl) h
          · replace h := q_t h c11
            refine lv_iconst (v := (2 : Int32)) hx hb dX9_slide_73 (by decide) ?_
            refine lv_goto (tgt := 79) hx hb dX9_slide_74 (by decide) ?_
            exact tX9_slide_c79 hk C0 hr hlk (2 : Int32) o6.2 _ _ _ hw (lv_sub hl [1, 2, 3, 4] rfl) h
        · replace h := q_t h c9
          refine lv_iconst (v := (1 : Int32)) hx hb dX9_slide_59 (by decide) ?_
          refine lv_goto (tgt := 79) hx hb dX9_slide_60 (by decide) ?_
          exact tX9_slide_c79 hk C0 hr hlk (1 : Int32) o6.2 _ _ _ hw (lv_sub hl [1, 2, 3, 4] rfl) h
      · replace h := q_f h c7
        refine lv_iload hx hb dX9_slide_45 (lv_at hl 0 rfl) ?_
        refine lv_i2l hx hb dX9_slide_47 rfl ?_
        exact q_lret h C0 hr hlk hw dX9_slide_48
    · replace h := q_t h c5
      refine lv_aload_n hx hb dX9_slide_25 rfl (lv_at hl 0 rfl) ?_
      refine lv_bipush (v := (-2 : Int32)) hx hb dX9_slide_26 (by decide) ?_
      obtain ⟨o12, hco12, h⟩ := q_bind h
      refine q_calli hw (va_runV (As := [.int (-2 : Int32)]) (rest := []) C0 (kX9_refuse hk hco12 _) (cwV 1 hts gX9_slide_X9_refuse rfl rfl rfl eX9_refuse ⟨(Nat.le_of_ble_eq_true rfl), (Nat.le_of_ble_eq_true rfl)⟩) ⟨q_blind, q_recv hw (mN_0 hk) (mE_0 hk) rfl, q_pre hw⟩ rfl rfl hl.1 rfl (lv_room (Nat.le_of_ble_eq_true rfl)) dX9_slide_28 ⟨Nat.zero_le _, Nat.zero_le _⟩) (fun H locs hw => ?_)
      refine lv_i2l hx hb dX9_slide_31 rfl ?_
      exact q_lret h C0 hr hlk hw dX9_slide_32
-- X9_rowOf rowOf(II)J
set_option maxHeartbeats 4000000 in
set_option maxRecDepth 100000 in
theorem tX9_rowOf_c28 {k : Nat} {p1 : Int32} {p2 : Int32} {rec9 : Int64 → Int32 → q_M → Option (Int64 × q_M)} (hk : mB N k) (C0 : CallFix p m c cX9_rowOf 7 s args wsX9_rowOf RX9) (hr : meth.sig.returnType = (some .long)) (hlk : meth.locks = false) {out : Int64 × q_M} (hrec9 : ∀ (v3 : Int64) (v5 : Int32) (σ : q_M) (H : Heap) (locs : List Loc) (ls : Array Slot), q_H (gM D cI cJ cR ad adK adV N) (q_A (gM D cI cJ cR ad adK adV N) s.heap.size) s σ H locs → lv_has ls 7 [(0, .ref (ad k)), (1, .int p1), (2, .int p2), (3, .long v3), (5, .int v5)] → rec9 v3 v5 σ = some out → W p l e { frames := 2, cells := 0, slots := 0, locals := 46 } s m args below meth c H locs 0 0 (MQ below (q_Rl (gM D cI cJ cR ad adK adV N) (q_A (gM D cI cJ cR ad adK adV N) s.heap.size) out) args s 0 0 (q_A (gM D cI cJ cR ad adK adV N) s.heap.size)) (F0 m 9 ls [])) : ∀ n : Nat, ∀ (v3 : Int64) (v5 : Int32) (v6 : Int32) (σ : q_M) (H : Heap) (locs : List Loc) (ls : Array Slot), q_H (gM D cI cJ cR ad adK adV N) (q_A (gM D cI cJ cR ad adK adV N) s.heap.size) s σ H locs → lv_has ls 7 [(0, .ref (ad k)), (1, .int p1), (2, .int p2), (3, .long v3), (5, .int v5), (6, .int v6)] → fX9_rowOf_c28 k p1 p2 rec9 n v3 v5 v6 σ = some out → W p l e { frames := 2, cells := 0, slots := 0, locals := 46 } s m args below meth c H locs 0 0 (MQ below (q_Rl (gM D cI cJ cR ad adK adV N) (q_A (gM D cI cJ cR ad adK adV N) s.heap.size) out) args s 0 0 (q_A (gM D cI cJ cR ad adK adV N) s.heap.size)) (F0 m 28 ls []) := by
  obtain ⟨hx, hb, hml, hown, hts⟩ := id C0
  intro n
  induction n with
  | zero =>
    intro v3 v5 v6 σ H locs ls  hw hl h
    cases (show (none : Option (Int64 × q_M)) = some out from h)
  | succ n hrec28 =>
    intro v3 v5 v6 σ H locs ls  hw hl h
    replace h : fX9_rowOf_c28b k p1 p2 rec9 (fX9_rowOf_c28 k p1 p2 rec9 n) v3 v5 v6 σ = some out := h
    unfold fX9_rowOf_c28b at h
    refine lv_iload hx hb dX9_rowOf_28 (lv_at hl 5 rfl) ?_
    refine lv_iconst (v := (-1 : Int32)) hx hb dX9_rowOf_30 (by decide) ?_
    refine lv_icmp_eq (tgt := 54) hx hb dX9_rowOf_31 (by decide) (fun c1 => ?_) (fun c1 => ?_)
    · replace h := q_t h c1
      refine lv_iinc (v := (v5 + (1 : Int32))) (lv' := [(5, .int (v5 + (1 : Int32))), (0, .ref (ad k)), (1, .int p1), (2, .int p2), (3, .long v3), (6, .int v6)]) hx hb dX9_rowOf_54 hl (k := 4) rfl rfl (by decide) rfl (fun ls hl => ?_)
      refine lv_goto (tgt := 9) hx hb dX9_rowOf_57 (by decide) ?_
      exact hrec9 v3 (v5 + (1 : Int32)) σ _ _ _ hw (lv_sub hl [1, 2, 3, 4, 0] rfl) h
    · replace h := q_f h c1
      refine lv_lload_n hx hb dX9_rowOf_34 rfl (lv_at hl 3 rfl) ?_
      refine lv_lconst (v := (1 : Int64)) hx hb dX9_rowOf_35 (by decide) ?_
      refine lv_iload hx hb dX9_rowOf_36 (lv_at hl 5 rfl) ?_
      refine lv_lshl (v := (q_shl (1 : Int64) v6)) hx hb dX9_rowOf_38 rfl ?_
      refine lv_lor hx hb dX9_rowOf_39 ?_
      refine lv_topl (fun x2 e_x2 => ?_)
      replace h := q_let_at e_x2 h
      refine lv_lstore_n (lv' := [(3, .long x2), (0, .ref (ad k)), (1, .int p1), (2, .int p2), (5, .int v5), (6, .int v6)]) hx hb dX9_rowOf_40 rfl hl (by decide) rfl (fun ls hl => ?_)
      refine lv_aload_n hx hb dX9_rowOf_41 rfl (lv_at hl 1 rfl) ?_
      refine lv_iload hx hb dX9_rowOf_42 (lv_at hl 5 rfl) ?_
      refine lv_iload hx hb dX9_rowOf_44 (lv_at hl 4 rfl) ?_
      obtain ⟨o3, hco3, h⟩ := q_bind h
      refine q_calli hw (va_runV (As := [.int v6, .int v5]) (rest := []) C0 (kX9_from hk hco3 _) (cwV 2 hts gX9_rowOf_X9_from rfl rfl rfl eX9_from ⟨(Nat.le_of_ble_eq_true rfl), (Nat.le_of_ble_eq_true rfl)⟩) ⟨q_blind, q_recv hw (mN_0 hk) (mE_0 hk) rfl, q_pre hw⟩ rfl rfl hl.1 rfl (lv_room (Nat.le_of_ble_eq_true rfl)) dX9_rowOf_46 ⟨Nat.zero_le _, Nat.zero_le _⟩) (fun H locs hw => ?_)
      refine lv_istore (lv' := [(6, .int o3.1), (3, .long x2), (0, .ref (ad k)), (1, .int p1), (2, .int p2), (5, .int v5)]) hx hb dX9_rowOf_49 hl (by decide) rfl (fun ls hl => ?_)
      refine lv_goto (tgt := 28) hx hb dX9_rowOf_51 (by decide) ?_
      exact hrec28 x2 v5 o3.1 o3.2 _ _ _ hw (lv_sub hl [2, 3, 4, 1, 5, 0] rfl) h
set_option maxHeartbeats 4000000 in
set_option maxRecDepth 100000 in
theorem tX9_rowOf_c9 {k : Nat} {p1 : Int32} {p2 : Int32} (hk : mB N k) (C0 : CallFix p m c cX9_rowOf 7 s args wsX9_rowOf RX9) (hr : meth.sig.returnType = (some .long)) (hlk : meth.locks = false) {out : Int64 × q_M}  : ∀ n : Nat, ∀ (v3 : Int64) (v5 : Int32) (σ : q_M) (H : Heap) (locs : List Loc) (ls : Array Slot), q_H (gM D cI cJ cR ad adK adV N) (q_A (gM D cI cJ cR ad adK adV N) s.heap.size) s σ H locs → lv_has ls 7 [(0, .ref (ad k)), (1, .int p1), (2, .int p2), (3, .long v3), (5, .int v5)] → fX9_rowOf_c9 k p1 p2 n v3 v5 σ = some out → W p l e { frames := 2, cells := 0, slots := 0, locals := 46 } s m args below meth c H locs 0 0 (MQ below (q_Rl (gM D cI cJ cR ad adK adV N) (q_A (gM D cI cJ cR ad adK adV N) s.heap.size) out) args s 0 0 (q_A (gM D cI cJ cR ad adK adV N) s.heap.size)) (F0 m 9 ls []) := by
  obtain ⟨hx, hb, hml, hown, hts⟩ := id C0
  intro n
  induction n with
  | zero =>
    intro v3 v5 σ H locs ls  hw hl h
    cases (show (none : Option (Int64 × q_M)) = some out from h)
  | succ n hrec9 =>
    intro v3 v5 σ H locs ls  hw hl h
    replace h : fX9_rowOf_c9b k p1 p2 (fX9_rowOf_c9 k p1 p2 n) v3 v5 σ = some out := h
    unfold fX9_rowOf_c9b at h
    refine lv_iload hx hb dX9_rowOf_9 (lv_at hl 4 rfl) ?_
    refine lv_iconst (v := (2 : Int32)) hx hb dX9_rowOf_11 (by decide) ?_
    refine lv_iload_n hx hb dX9_rowOf_12 rfl (lv_at hl 2 rfl) ?_
    refine lv_imul hx hb dX9_rowOf_13 ?_
    refine lv_iconst (v := (1 : Int32)) hx hb dX9_rowOf_14 (by decide) ?_
    refine lv_iadd hx hb dX9_rowOf_15 ?_
    refine lv_icmp_gt (tgt := 60) hx hb dX9_rowOf_16 (by decide) (fun c1 => ?_) (fun c1 => ?_)
    · replace h := q_t h c1
      refine lv_lload_n hx hb dX9_rowOf_60 rfl (lv_at hl 3 rfl) ?_
      exact q_lret h C0 hr hlk hw dX9_rowOf_61
    · replace h := q_f h c1
      refine lv_aload_n hx hb dX9_rowOf_19 rfl (lv_at hl 0 rfl) ?_
      refine lv_iload_n hx hb dX9_rowOf_20 rfl (lv_at hl 1 rfl) ?_
      refine lv_iload hx hb dX9_rowOf_21 (lv_at hl 4 rfl) ?_
      obtain ⟨o2, hco2, h⟩ := q_bind h
      refine q_calli hw (va_runV (As := [.int p1, .int v5]) (rest := []) C0 (kX9_from hk hco2 _) (cwV 2 hts gX9_rowOf_X9_from rfl rfl rfl eX9_from ⟨(Nat.le_of_ble_eq_true rfl), (Nat.le_of_ble_eq_true rfl)⟩) ⟨q_blind, q_recv hw (mN_0 hk) (mE_0 hk) rfl, q_pre hw⟩ rfl rfl hl.1 rfl (lv_room (Nat.le_of_ble_eq_true rfl)) dX9_rowOf_23 ⟨Nat.zero_le _, Nat.zero_le _⟩) (fun H locs hw => ?_)
      refine lv_istore (lv' := [(6, .int o2.1), (0, .ref (ad k)), (1, .int p1), (2, .int p2), (3, .long v3), (5, .int v5)]) hx hb dX9_rowOf_26 hl (by decide) rfl (fun ls hl => ?_)
      exact tX9_rowOf_c28 hk C0 hr hlk hrec9 q_FU v3 v5 o2.1 o2.2 _ _ _ hw (lv_sub hl [1, 2, 3, 4, 5, 0] rfl) h
set_option maxHeartbeats 4000000 in
set_option maxRecDepth 100000 in
theorem kX9_rowOf {k : Nat} {p1 : Int32} {p2 : Int32} (hk : mB N k) {σ : q_M} {out : Int64 × q_M} (h : fX9_rowOf k p1 p2 σ = some out) : q_Ml l (gM D cI cJ cR ad adK adV N) yX9_rowOf wsX9_rowOf { frames := 2, cells := 0, slots := 0, locals := 46 } [.ref (ad k), .int p1, .int p2] σ out := by
  refine q_Ml_of (cc := cX9_rowOf) (maxL := 7) (ret := (some .long)) (by decide) rfl (Nat.le_of_ble_eq_true rfl) ?_
  intro p e s m below meth c ls C0 hr hlk hl hw
  obtain ⟨hx, hb, hml, hown, hts⟩ := id C0
  replace hl : lv_has ls 7 [(0, .ref (ad k)), (1, .int p1), (2, .int p2)] := hl
  unfold fX9_rowOf at h
  refine lv_lconst (v := (1 : Int64)) hx hb dX9_rowOf_0 (by decide) ?_
  refine lv_iload_n hx hb dX9_rowOf_1 rfl (lv_at hl 1 rfl) ?_
  refine lv_lshl (v := (q_shl (1 : Int64) p1)) hx hb dX9_rowOf_2 rfl ?_
  refine lv_lstore_n (lv' := [(3, .long (q_shl (1 : Int64) p1)), (0, .ref (ad k)), (1, .int p1), (2, .int p2)]) hx hb dX9_rowOf_3 rfl hl (by decide) rfl (fun ls hl => ?_)
  refine lv_iconst (v := (2 : Int32)) hx hb dX9_rowOf_4 (by decide) ?_
  refine lv_iload_n hx hb dX9_rowOf_5 rfl (lv_at hl 3 rfl) ?_
  refine lv_imul hx hb dX9_rowOf_6 ?_
  refine lv_istore (lv' := [(5, .int ((2 : Int32) * p2)), (3, .long (q_shl (1 : Int64) p1)), (0, .ref (ad k)), (1, .int p1), (2, .int p2)]) hx hb dX9_rowOf_7 hl (by decide) rfl (fun ls hl => ?_)
  exact tX9_rowOf_c9 hk C0 hr hlk q_FU (q_shl (1 : Int64) p1) ((2 : Int32) * p2) σ _ _ _ hw (lv_sub hl [2, 3, 4, 1, 0] rfl) h
-- X9_tunnels tunnels(I)I
theorem iX9_tunnels_X9 : ∀ w ∈ wsX90, w ∈ wsX9_tunnels := by decide +kernel
theorem eX9_rowOf : yX9_rowOf.cls = RX9 ∧ yX9_rowOf.cls ≠ "java/lang/invoke/MethodHandle" ∧ yX9_rowOf.cls ≠ "java/lang/invoke/VarHandle" ∧ (parseMethodDescriptor yX9_rowOf.desc).map (fun d => d.parameters.length) = some 2 := by decide +kernel
set_option maxHeartbeats 4000000 in
set_option maxRecDepth 100000 in
theorem tX9_tunnels_c23 {k : Nat} {p1 : Int32} (hk : mB N k) (C0 : CallFix p m c cX9_tunnels 4 s args wsX9_tunnels RX9) (hr : meth.sig.returnType = (some .int)) (hlk : meth.locks = false) {out : Int32 × q_M}  : ∀ n : Nat, ∀ (v2 : Int32) (v3 : Int32) (σ : q_M) (H : Heap) (locs : List Loc) (ls : Array Slot), q_H (gM D cI cJ cR ad adK adV N) (q_A (gM D cI cJ cR ad adK adV N) s.heap.size) s σ H locs → lv_has ls 4 [(0, .ref (ad k)), (1, .int p1), (2, .int v2), (3, .int v3)] → fX9_tunnels_c23 k p1 n v2 v3 σ = some out → W p l e { frames := 3, cells := 0, slots := 0, locals := 72 } s m args below meth c H locs 0 0 (MQ below (q_Ri (gM D cI cJ cR ad adK adV N) (q_A (gM D cI cJ cR ad adK adV N) s.heap.size) out) args s 0 0 (q_A (gM D cI cJ cR ad adK adV N) s.heap.size)) (F0 m 23 ls []) := by
  obtain ⟨hx, hb, hml, hown, hts⟩ := id C0
  intro n
  induction n with
  | zero =>
    intro v2 v3 σ H locs ls  hw hl h
    cases (show (none : Option (Int32 × q_M)) = some out from h)
  | succ n hrec23 =>
    intro v2 v3 σ H locs ls  hw hl h
    replace h : fX9_tunnels_c23b k p1 (fX9_tunnels_c23 k p1 n) v2 v3 σ = some out := h
    unfold fX9_tunnels_c23b at h
    refine lv_iload_n hx hb dX9_tunnels_23 rfl (lv_at hl 3 rfl) ?_
    refine lv_aload_n hx hb dX9_tunnels_24 rfl (lv_at hl 0 rfl) ?_
    obtain ⟨o1, hco1, h⟩ := q_bind h
    refine q_calli hw (va_runV (As := []) (rest := [.int v3]) C0 (kX9_many hk hco1 _) (cwV 0 hts gX9_tunnels_X9_many rfl rfl rfl eX9_many ⟨(Nat.le_of_ble_eq_true rfl), (Nat.le_of_ble_eq_true rfl)⟩) ⟨q_blind, q_recv hw (mN_0 hk) (mE_0 hk) rfl, q_pre hw⟩ rfl rfl hl.1 rfl (lv_room (Nat.le_of_ble_eq_true rfl)) dX9_tunnels_25 ⟨Nat.zero_le _, Nat.zero_le _⟩) (fun H locs hw => ?_)
    refine lv_icmp_ge (tgt := 70) hx hb dX9_tunnels_28 (by decide) (fun c2 => ?_) (fun c2 => ?_)
    · replace h := q_t h c2
      refine lv_iload_n hx hb dX9_tunnels_70 rfl (lv_at hl 2 rfl) ?_
      exact q_iret h C0 hr hlk hw dX9_tunnels_71
    · replace h := q_f h c2
      refine lv_iload_n hx hb dX9_tunnels_31 rfl (lv_at hl 2 rfl) ?_
      refine lv_aload_n hx hb dX9_tunnels_32 rfl (lv_at hl 0 rfl) ?_
      refine lv_iload_n hx hb dX9_tunnels_33 rfl (lv_at hl 3 rfl) ?_
      refine lv_iload_n hx hb dX9_tunnels_34 rfl (lv_at hl 1 rfl) ?_
      obtain ⟨o3, hco3, h⟩ := q_bind h
      refine q_calli hw (va_runV (As := [.int v3, .int p1]) (rest := [.int v2]) C0 (kX9_sideOf hk hco3 _) (cwV 2 hts gX9_tunnels_X9_sideOf rfl rfl rfl eX9_sideOf ⟨(Nat.le_of_ble_eq_true rfl), (Nat.le_of_ble_eq_true rfl)⟩) ⟨q_blind, q_recv hw (mN_0 hk) (mE_0 hk) rfl, q_pre hw⟩ rfl rfl hl.1 rfl (lv_room (Nat.le_of_ble_eq_true rfl)) dX9_tunnels_35 ⟨Nat.zero_le _, Nat.zero_le _⟩) (fun H locs hw => ?_)
      refine lv_if_ne (tgt := 61) hx hb dX9_tunnels_38 (by decide) (fun c4 => ?_) (fun c4 => ?_)
      · replace h := q_f h c4
        refine lv_iconst (v := (0 : Int32)) hx hb dX9_tunnels_61 (by decide) ?_
        refine lv_iadd hx hb dX9_tunnels_62 ?_
        refine lv_istore_n (lv' := [(2, .int (v2 + (0 : Int32))), (0, .ref (ad k)), (1, .int p1), (3, .int v3)]) hx hb dX9_tunnels_63 rfl hl (by decide) rfl (fun ls hl => ?_)
        refine lv_iinc (v := (v3 + (1 : Int32))) (lv' := [(3, .int (v3 + (1 : Int32))), (2, .int (v2 + (0 : Int32))), (0, .ref (ad k)), (1, .int p1)]) hx hb dX9_tunnels_64 hl (k := 3) rfl rfl (by decide) rfl (fun ls hl => ?_)
        refine lv_goto (tgt := 23) hx hb dX9_tunnels_67 (by decide) ?_
        exact hrec23 (v2 + (0 : Int32)) (v3 + (1 : Int32)) o3.2 _ _ _ hw (lv_sub hl [2, 3, 1, 0] rfl) h
      · replace h := q_t h c4
        refine lv_aload_n hx hb dX9_tunnels_41 rfl (lv_at hl 0 rfl) ?_
        refine lv_iload_n hx hb dX9_tunnels_42 rfl (lv_at hl 3 rfl) ?_
        refine lv_iload_n hx hb dX9_tunnels_43 rfl (lv_at hl 1 rfl) ?_
        obtain ⟨o5, hco5, h⟩ := q_bind h
        refine q_calll hw (va_runV (As := [.int v3, .int p1]) (rest := [.int v2]) C0 (kX9_rowOf hk hco5 _) (cwV 2 hts gX9_tunnels_X9_rowOf rfl rfl rfl eX9_rowOf ⟨(Nat.le_of_ble_eq_true rfl), (Nat.le_of_ble_eq_true rfl)⟩) ⟨q_blind, q_recv hw (mN_0 hk) (mE_0 hk) rfl, q_pre hw⟩ rfl rfl hl.1 rfl (lv_room (Nat.le_of_ble_eq_true rfl)) dX9_tunnels_44 ⟨Nat.zero_le _, Nat.zero_le _⟩) (fun H locs hw => ?_)
        refine lv_aload_n hx hb dX9_tunnels_47 rfl (lv_at hl 0 rfl) ?_
        refine gt_X9_12 C0 hw hk iX9_tunnels_X9 (by decide +kernel) dX9_tunnels_48 ?_
        refine lv_land hx hb dX9_tunnels_51 ?_
        refine lv_lconst (v := (0 : Int64)) hx hb dX9_tunnels_52 (by decide) ?_
        refine q_lcmp_ne (tgt := 61) C0 dX9_tunnels_53 dX9_tunnels_54 (by decide) (fun c6 => ?_) (fun c6 => ?_)
        · replace h := q_f h c6
          refine lv_iconst (v := (0 : Int32)) hx hb dX9_tunnels_61 (by decide) ?_
          refine lv_iadd hx hb dX9_tunnels_62 ?_
          refine lv_istore_n (lv' := [(2, .int (v2 + (0 : Int32))), (0, .ref (ad k)), (1, .int p1), (3, .int v3)]) hx hb dX9_tunnels_63 rfl hl (by decide) rfl (fun ls hl => ?_)
          refine lv_iinc (v := (v3 + (1 : Int32))) (lv' := [(3, .int (v3 + (1 : Int32))), (2, .int (v2 + (0 : Int32))), (0, .ref (ad k)), (1, .int p1)]) hx hb dX9_tunnels_64 hl (k := 3) rfl rfl (by decide) rfl (fun ls hl => ?_)
          refine lv_goto (tgt := 23) hx hb dX9_tunnels_67 (by decide) ?_
          exact hrec23 (v2 + (0 : Int32)) (v3 + (1 : Int32)) o5.2 _ _ _ hw (lv_sub hl [2, 3, 1, 0] rfl) h
        · replace h := q_t h c6
          refine lv_iconst (v := (1 : Int32)) hx hb dX9_tunnels_57 (by decide) ?_
          refine lv_goto (tgt := 62) hx hb dX9_tunnels_58 (by decide) ?_
          refine lv_iadd hx hb dX9_tunnels_62 ?_
          refine lv_istore_n (lv' := [(2, .int (v2 + (1 : Int32))), (0, .ref (ad k)), (1, .int p1), (3, .int v3)]) hx hb dX9_tunnels_63 rfl hl (by decide) rfl (fun ls hl => ?_)
          refine lv_iinc (v := (v3 + (1 : Int32))) (lv' := [(3, .int (v3 + (1 : Int32))), (2, .int (v2 + (1 : Int32))), (0, .ref (ad k)), (1, .int p1)]) hx hb dX9_tunnels_64 hl (k := 3) rfl rfl (by decide) rfl (fun ls hl => ?_)
          refine lv_goto (tgt := 23) hx hb dX9_tunnels_67 (by decide) ?_
          exact hrec23 (v2 + (1 : Int32)) (v3 + (1 : Int32)) o5.2 _ _ _ hw (lv_sub hl [2, 3, 1, 0] rfl) h
set_option maxHeartbeats 4000000 in
set_option maxRecDepth 100000 in
theorem kX9_tunnels {k : Nat} {p1 : Int32} (hk : mB N k) {σ : q_M} {out : Int32 × q_M} (h : fX9_tunnels k p1 σ = some out) : q_Mi l (gM D cI cJ cR ad adK adV N) yX9_tunnels wsX9_tunnels { frames := 3, cells := 0, slots := 0, locals := 72 } [.ref (ad k), .int p1] σ out := by
  refine q_Mi_of (cc := cX9_tunnels) (maxL := 4) (ret := (some .int)) (by decide) rfl (Nat.le_of_ble_eq_true rfl) ?_
  intro p e s m below meth c ls C0 hr hlk hl hw
  obtain ⟨hx, hb, hml, hown, hts⟩ := id C0
  replace hl : lv_has ls 4 [(0, .ref (ad k)), (1, .int p1)] := hl
  unfold fX9_tunnels at h
  refine lv_iload_n hx hb dX9_tunnels_0 rfl (lv_at hl 1 rfl) ?_
  refine lv_i2l hx hb dX9_tunnels_1 rfl ?_
  refine lv_lconst (v := (0 : Int64)) hx hb dX9_tunnels_2 (by decide) ?_
  refine lv_ldc2 (v := (2 : Int64)) hx hb hown (hts (.constantLong RX9 152 (2)) (by decide +kernel)) dX9_tunnels_3 ?_
  obtain ⟨o1, hco1, h⟩ := q_bind h
  refine q_calli hw (va_runS (As := [.long p1.toInt64, .long (0 : Int64), .long (2 : Int64)]) (rest := []) C0 (kX9_in hco1 _) (va_cwS 3 hts gX9_tunnels_X9_in rfl rfl rfl eX9_in ⟨(Nat.le_of_ble_eq_true rfl), (Nat.le_of_ble_eq_true rfl)⟩) ⟨q_blind, q_pre hw⟩ rfl rfl hl.1 rfl (lv_room (Nat.le_of_ble_eq_true rfl)) dX9_tunnels_6 ⟨Nat.zero_le _, Nat.zero_le _⟩) (fun H locs hw => ?_)
  refine lv_if_ne (tgt := 19) hx hb dX9_tunnels_9 (by decide) (fun c2 => ?_) (fun c2 => ?_)
  · replace h := q_f h c2
    refine lv_iconst (v := (0 : Int32)) hx hb dX9_tunnels_19 (by decide) ?_
    refine lv_istore_n (lv' := [(2, .int (0 : Int32)), (0, .ref (ad k)), (1, .int p1)]) hx hb dX9_tunnels_20 rfl hl (by decide) rfl (fun ls hl => ?_)
    refine lv_iconst (v := (0 : Int32)) hx hb dX9_tunnels_21 (by decide) ?_
    refine lv_istore_n (lv' := [(3, .int (0 : Int32)), (2, .int (0 : Int32)), (0, .ref (ad k)), (1, .int p1)]) hx hb dX9_tunnels_22 rfl hl (by decide) rfl (fun ls hl => ?_)
    exact tX9_tunnels_c23 hk C0 hr hlk q_FU (0 : Int32) (0 : Int32) o1.2 _ _ _ hw (lv_sub hl [2, 3, 1, 0] rfl) h
  · replace h := q_t h c2
    refine lv_aload_n hx hb dX9_tunnels_12 rfl (lv_at hl 0 rfl) ?_
    refine lv_bipush (v := (-2 : Int32)) hx hb dX9_tunnels_13 (by decide) ?_
    obtain ⟨o3, hco3, h⟩ := q_bind h
    refine q_calli hw (va_runV (As := [.int (-2 : Int32)]) (rest := []) C0 (kX9_refuse hk hco3 _) (cwV 1 hts gX9_tunnels_X9_refuse rfl rfl rfl eX9_refuse ⟨(Nat.le_of_ble_eq_true rfl), (Nat.le_of_ble_eq_true rfl)⟩) ⟨q_blind, q_recv hw (mN_0 hk) (mE_0 hk) rfl, q_pre hw⟩ rfl rfl hl.1 rfl (lv_room (Nat.le_of_ble_eq_true rfl)) dX9_tunnels_15 ⟨Nat.zero_le _, Nat.zero_le _⟩) (fun H locs hw => ?_)
    exact q_iret h C0 hr hlk hw dX9_tunnels_18
-- X9_needed needed()J
theorem iX9_needed_X9 : ∀ w ∈ wsX90, w ∈ wsX9_needed := by decide +kernel
set_option maxHeartbeats 4000000 in
set_option maxRecDepth 100000 in
theorem tX9_needed_c14 {k : Nat} (hk : mB N k) (C0 : CallFix p m c cX9_needed 5 s args wsX9_needed RX9) (hr : meth.sig.returnType = (some .long)) (hlk : meth.locks = false) {out : Int64 × q_M}  : ∀ n : Nat, ∀ (v1 : Int32) (v2 : Int64) (v4 : Int32) (σ : q_M) (H : Heap) (locs : List Loc) (ls : Array Slot), q_H (gM D cI cJ cR ad adK adV N) (q_A (gM D cI cJ cR ad adK adV N) s.heap.size) s σ H locs → lv_has ls 5 [(0, .ref (ad k)), (1, .int v1), (2, .long v2), (4, .int v4)] → fX9_needed_c14 k n v1 v2 v4 σ = some out → W p l e { frames := 4, cells := 0, slots := 0, locals := 102 } s m args below meth c H locs 0 0 (MQ below (q_Rl (gM D cI cJ cR ad adK adV N) (q_A (gM D cI cJ cR ad adK adV N) s.heap.size) out) args s 0 0 (q_A (gM D cI cJ cR ad adK adV N) s.heap.size)) (F0 m 14 ls []) := by
  obtain ⟨hx, hb, hml, hown, hts⟩ := id C0
  intro n
  induction n with
  | zero =>
    intro v1 v2 v4 σ H locs ls  hw hl h
    cases (show (none : Option (Int64 × q_M)) = some out from h)
  | succ n hrec14 =>
    intro v1 v2 v4 σ H locs ls  hw hl h
    replace h : fX9_needed_c14b k (fX9_needed_c14 k n) v1 v2 v4 σ = some out := h
    unfold fX9_needed_c14b at h
    refine lv_iload hx hb dX9_needed_14 (lv_at hl 3 rfl) ?_
    refine lv_aload_n hx hb dX9_needed_16 rfl (lv_at hl 0 rfl) ?_
    obtain ⟨o1, hco1, h⟩ := q_bind h
    refine q_calli hw (va_runV (As := []) (rest := [.int v4]) C0 (kX9_many hk hco1 _) (cwV 0 hts gX9_needed_X9_many rfl rfl rfl eX9_many ⟨(Nat.le_of_ble_eq_true rfl), (Nat.le_of_ble_eq_true rfl)⟩) ⟨q_blind, q_recv hw (mN_0 hk) (mE_0 hk) rfl, q_pre hw⟩ rfl rfl hl.1 rfl (lv_room (Nat.le_of_ble_eq_true rfl)) dX9_needed_17 ⟨Nat.zero_le _, Nat.zero_le _⟩) (fun H locs hw => ?_)
    refine lv_icmp_ge (tgt := 73) hx hb dX9_needed_20 (by decide) (fun c2 => ?_) (fun c2 => ?_)
    · replace h := q_t h c2
      refine lv_lload_n hx hb dX9_needed_73 rfl (lv_at hl 2 rfl) ?_
      exact q_lret h C0 hr hlk hw dX9_needed_74
    · replace h := q_f h c2
      refine lv_lload_n hx hb dX9_needed_23 rfl (lv_at hl 2 rfl) ?_
      refine lv_aload_n hx hb dX9_needed_24 rfl (lv_at hl 0 rfl) ?_
      refine gt_X9_12 C0 hw hk iX9_needed_X9 (by decide +kernel) dX9_needed_25 ?_
      refine lv_iload hx hb dX9_needed_28 (lv_at hl 3 rfl) ?_
      obtain ⟨o3, hco3, h⟩ := q_bind h
      refine q_calli hw (va_runS (As := [.long (o1.2.2 k 12), .int v4]) (rest := [.long v2]) C0 (kX9_has hco3 _) (va_cwS 2 hts gX9_needed_X9_has rfl rfl rfl eX9_has ⟨(Nat.le_of_ble_eq_true rfl), (Nat.le_of_ble_eq_true rfl)⟩) ⟨q_blind, q_pre hw⟩ rfl rfl hl.1 rfl (lv_room (Nat.le_of_ble_eq_true rfl)) dX9_needed_30 ⟨Nat.zero_le _, Nat.zero_le _⟩) (fun H locs hw => ?_)
      refine lv_if_eq (tgt := 64) hx hb dX9_needed_33 (by decide) (fun c4 => ?_) (fun c4 => ?_)
      · replace h := q_t h c4
        refine lv_lconst (v := (0 : Int64)) hx hb dX9_needed_64 (by decide) ?_
        refine lv_lor hx hb dX9_needed_65 ?_
        refine lv_lstore_n (lv' := [(2, .long (v2 ||| (0 : Int64))), (0, .ref (ad k)), (1, .int v1), (4, .int v4)]) hx hb dX9_needed_66 rfl hl (by decide) rfl (fun ls hl => ?_)
        refine lv_iinc (v := (v4 + (1 : Int32))) (lv' := [(4, .int (v4 + (1 : Int32))), (2, .long (v2 ||| (0 : Int64))), (0, .ref (ad k)), (1, .int v1)]) hx hb dX9_needed_67 hl (k := 3) rfl rfl (by decide) rfl (fun ls hl => ?_)
        refine lv_goto (tgt := 14) hx hb dX9_needed_70 (by decide) ?_
        exact hrec14 v1 (v2 ||| (0 : Int64)) (v4 + (1 : Int32)) o3.2 _ _ _ hw (lv_sub hl [2, 3, 1, 0] rfl) h
      · replace h := q_f h c4
        refine lv_aload_n hx hb dX9_needed_36 rfl (lv_at hl 0 rfl) ?_
        refine lv_aload_n hx hb dX9_needed_37 rfl (lv_at hl 0 rfl) ?_
        refine gt_X9_12 C0 hw hk iX9_needed_X9 (by decide +kernel) dX9_needed_38 ?_
        refine lv_lconst (v := (1 : Int64)) hx hb dX9_needed_41 (by decide) ?_
        refine lv_iload hx hb dX9_needed_42 (lv_at hl 3 rfl) ?_
        refine lv_lshl (v := (q_shl (1 : Int64) v4)) hx hb dX9_needed_44 rfl ?_
        refine lv_ldc2 (v := (-1 : Int64)) hx hb hown (hts (.constantLong RX9 100 (-1)) (by decide +kernel)) dX9_needed_45 ?_
        refine lv_lxor hx hb dX9_needed_48 ?_
        refine lv_land hx hb dX9_needed_49 ?_
        obtain ⟨o5, hco5, h⟩ := q_bind h
        refine q_calli hw (va_runV (As := [.long ((o3.2.2 k 12) &&& ((q_shl (1 : Int64) v4) ^^^ (-1 : Int64)))]) (rest := [.long v2]) C0 (kX9_partsOf hk hco5 _) (cwV 1 hts gX9_needed_X9_partsOf rfl rfl rfl eX9_partsOf ⟨(Nat.le_of_ble_eq_true rfl), (Nat.le_of_ble_eq_true rfl)⟩) ⟨q_blind, q_recv hw (mN_0 hk) (mE_0 hk) rfl, q_pre hw⟩ rfl rfl hl.1 rfl (lv_room (Nat.le_of_ble_eq_true rfl)) dX9_needed_50 ⟨Nat.zero_le _, Nat.zero_le _⟩) (fun H locs hw => ?_)
        refine lv_iload_n hx hb dX9_needed_53 rfl (lv_at hl 1 rfl) ?_
        refine lv_icmp_le (tgt := 64) hx hb dX9_needed_54 (by decide) (fun c6 => ?_) (fun c6 => ?_)
        · replace h := q_t h c6
          refine lv_lconst (v := (0 : Int64)) hx hb dX9_needed_64 (by decide) ?_
          refine lv_lor hx hb dX9_needed_65 ?_
          refine lv_lstore_n (lv' := [(2, .long (v2 ||| (0 : Int64))), (0, .ref (ad k)), (1, .int v1), (4, .int v4)]) hx hb dX9_needed_66 rfl hl (by decide) rfl (fun ls hl => ?_)
          refine lv_iinc (v := (v4 + (1 : Int32))) (lv' := [(4, .int (v4 + (1 : Int32))), (2, .long (v2 ||| (0 : Int64))), (0, .ref (ad k)), (1, .int v1)]) hx hb dX9_needed_67 hl (k := 3) rfl rfl (by decide) rfl (fun ls hl => ?_)
          refine lv_goto (tgt := 14) hx hb dX9_needed_70 (by decide) ?_
          exact hrec14 v1 (v2 ||| (0 : Int64)) (v4 + (1 : Int32)) o5.2 _ _ _ hw (lv_sub hl [2, 3, 1, 0] rfl) h
        · replace h := q_f h c6
          refine lv_lconst (v := (1 : Int64)) hx hb dX9_needed_57 (by decide) ?_
          refine lv_iload hx hb dX9_needed_58 (lv_at hl 3 rfl) ?_
          refine lv_lshl (v := (q_shl (1 : Int64) v4)) hx hb dX9_needed_60 rfl ?_
          refine lv_goto (tgt := 65) hx hb dX9_needed_61 (by decide) ?_
          refine lv_lor hx hb dX9_needed_65 ?_
          refine lv_topl (fun x7 e_x7 => ?_)
          replace h := q_let_at e_x7 h
          refine lv_lstore_n (lv' := [(2, .long x7), (0, .ref (ad k)), (1, .int v1), (4, .int v4)]) hx hb dX9_needed_66 rfl hl (by decide) rfl (fun ls hl => ?_)
          refine lv_iinc (v := (v4 + (1 : Int32))) (lv' := [(4, .int (v4 + (1 : Int32))), (2, .long x7), (0, .ref (ad k)), (1, .int v1)]) hx hb dX9_needed_67 hl (k := 3) rfl rfl (by decide) rfl (fun ls hl => ?_)
          refine lv_goto (tgt := 14) hx hb dX9_needed_70 (by decide) ?_
          exact hrec14 v1 x7 (v4 + (1 : Int32)) o5.2 _ _ _ hw (lv_sub hl [2, 3, 1, 0] rfl) h
set_option maxHeartbeats 4000000 in
set_option maxRecDepth 100000 in
theorem kX9_needed {k : Nat} (hk : mB N k) {σ : q_M} {out : Int64 × q_M} (h : fX9_needed k σ = some out) : q_Ml l (gM D cI cJ cR ad adK adV N) yX9_needed wsX9_needed { frames := 4, cells := 0, slots := 0, locals := 102 } [.ref (ad k)] σ out := by
  refine q_Ml_of (cc := cX9_needed) (maxL := 5) (ret := (some .long)) (by decide) rfl (Nat.le_of_ble_eq_true rfl) ?_
  intro p e s m below meth c ls C0 hr hlk hl hw
  obtain ⟨hx, hb, hml, hown, hts⟩ := id C0
  replace hl : lv_has ls 5 [(0, .ref (ad k))] := hl
  unfold fX9_needed at h
  refine lv_aload_n hx hb dX9_needed_0 rfl (lv_at hl 0 rfl) ?_
  refine lv_aload_n hx hb dX9_needed_1 rfl (lv_at hl 0 rfl) ?_
  refine gt_X9_12 C0 hw hk iX9_needed_X9 (by decide +kernel) dX9_needed_2 ?_
  obtain ⟨o1, hco1, h⟩ := q_bind h
  refine q_calli hw (va_runV (As := [.long (σ.2 k 12)]) (rest := []) C0 (kX9_partsOf hk hco1 _) (cwV 1 hts gX9_needed_X9_partsOf rfl rfl rfl eX9_partsOf ⟨(Nat.le_of_ble_eq_true rfl), (Nat.le_of_ble_eq_true rfl)⟩) ⟨q_blind, q_recv hw (mN_0 hk) (mE_0 hk) rfl, q_pre hw⟩ rfl rfl hl.1 rfl (lv_room (Nat.le_of_ble_eq_true rfl)) dX9_needed_5 ⟨Nat.zero_le _, Nat.zero_le _⟩) (fun H locs hw => ?_)
  refine lv_istore_n (lv' := [(1, .int o1.1), (0, .ref (ad k))]) hx hb dX9_needed_8 rfl hl (by decide) rfl (fun ls hl => ?_)
  refine lv_lconst (v := (0 : Int64)) hx hb dX9_needed_9 (by decide) ?_
  refine lv_lstore_n (lv' := [(2, .long (0 : Int64)), (1, .int o1.1), (0, .ref (ad k))]) hx hb dX9_needed_10 rfl hl (by decide) rfl (fun ls hl => ?_)
  refine lv_iconst (v := (0 : Int32)) hx hb dX9_needed_11 (by decide) ?_
  refine lv_istore (lv' := [(4, .int (0 : Int32)), (2, .long (0 : Int64)), (1, .int o1.1), (0, .ref (ad k))]) hx hb dX9_needed_12 hl (by decide) rfl (fun ls hl => ?_)
  exact tX9_needed_c14 hk C0 hr hlk q_FU o1.1 (0 : Int64) (0 : Int32) o1.2 _ _ _ hw (lv_sub hl [3, 2, 1, 0] rfl) h
-- X9_cubeAt cubeAt(III)I
theorem iX9_cubeAt_X9 : ∀ w ∈ wsX90, w ∈ wsX9_cubeAt := by decide +kernel
set_option maxHeartbeats 4000000 in
set_option maxRecDepth 100000 in
theorem kX9_cubeAt {k : Nat} {p1 : Int32} {p2 : Int32} {p3 : Int32} (hk : mB N k) {σ : q_M} {out : Int32 × q_M} (h : fX9_cubeAt k p1 p2 p3 σ = some out) : q_Mi l (gM D cI cJ cR ad adK adV N) yX9_cubeAt wsX9_cubeAt { frames := 0, cells := 0, slots := 0, locals := 0 } [.ref (ad k), .int p1, .int p2, .int p3] σ out := by
  refine q_Mi_of (cc := cX9_cubeAt) (maxL := 4) (ret := (some .int)) (by decide) rfl (Nat.le_of_ble_eq_true rfl) ?_
  intro p e s m below meth c ls C0 hr hlk hl hw
  obtain ⟨hx, hb, hml, hown, hts⟩ := id C0
  replace hl : lv_has ls 4 [(0, .ref (ad k)), (1, .int p1), (2, .int p2), (3, .int p3)] := hl
  unfold fX9_cubeAt at h
  refine lv_iload_n hx hb dX9_cubeAt_0 rfl (lv_at hl 1 rfl) ?_
  refine lv_aload_n hx hb dX9_cubeAt_1 rfl (lv_at hl 0 rfl) ?_
  refine gt_X9_11 C0 hw hk iX9_cubeAt_X9 (by decide +kernel) dX9_cubeAt_2 ?_
  refine lv_iload_n hx hb dX9_cubeAt_5 rfl (lv_at hl 2 rfl) ?_
  refine lv_imul hx hb dX9_cubeAt_6 ?_
  refine lv_iadd hx hb dX9_cubeAt_7 ?_
  refine lv_aload_n hx hb dX9_cubeAt_8 rfl (lv_at hl 0 rfl) ?_
  refine gt_X9_11 C0 hw hk iX9_cubeAt_X9 (by decide +kernel) dX9_cubeAt_9 ?_
  refine lv_aload_n hx hb dX9_cubeAt_12 rfl (lv_at hl 0 rfl) ?_
  refine gt_X9_11 C0 hw hk iX9_cubeAt_X9 (by decide +kernel) dX9_cubeAt_13 ?_
  refine lv_imul hx hb dX9_cubeAt_16 ?_
  refine lv_iload_n hx hb dX9_cubeAt_17 rfl (lv_at hl 3 rfl) ?_
  refine lv_imul hx hb dX9_cubeAt_18 ?_
  refine lv_iadd hx hb dX9_cubeAt_19 ?_
  exact q_iret h C0 hr hlk hw dX9_cubeAt_20
-- X9_imageOf imageOf(IIZ)I
theorem iX9_imageOf_X9 : ∀ w ∈ wsX90, w ∈ wsX9_imageOf := by decide +kernel
theorem eX9_cubeAt : yX9_cubeAt.cls = RX9 ∧ yX9_cubeAt.cls ≠ "java/lang/invoke/MethodHandle" ∧ yX9_cubeAt.cls ≠ "java/lang/invoke/VarHandle" ∧ (parseMethodDescriptor yX9_cubeAt.desc).map (fun d => d.parameters.length) = some 3 := by decide +kernel
set_option maxHeartbeats 4000000 in
set_option maxRecDepth 100000 in
theorem tX9_imageOf_c117 {k : Nat} {p1 : Int32} {p2 : Int32} {p3 : Int32} (hk : mB N k) (C0 : CallFix p m c cX9_imageOf 7 s args wsX9_imageOf RX9) (hr : meth.sig.returnType = (some .int)) (hlk : meth.locks = false) {out : Int32 × q_M}  : ∀  (σ : q_M) (H : Heap) (locs : List Loc) (ls : Array Slot), q_H (gM D cI cJ cR ad adK adV N) (q_A (gM D cI cJ cR ad adK adV N) s.heap.size) s σ H locs → lv_has ls 7 [(0, .ref (ad k))] → fX9_imageOf_c117 k p1 p2 p3  σ = some out → W p l e { frames := 1, cells := 0, slots := 0, locals := 23 } s m args below meth c H locs 0 0 (MQ below (q_Ri (gM D cI cJ cR ad adK adV N) (q_A (gM D cI cJ cR ad adK adV N) s.heap.size) out) args s 0 0 (q_A (gM D cI cJ cR ad adK adV N) s.heap.size)) (F0 m 117 ls []) := by
  obtain ⟨hx, hb, hml, hown, hts⟩ := id C0
  intro  σ H locs ls  hw hl h
  unfold fX9_imageOf_c117 at h
  refine lv_aload_n hx hb dX9_imageOf_117 rfl (lv_at hl 0 rfl) ?_
  refine lv_aload_n hx hb dX9_imageOf_118 rfl (lv_at hl 0 rfl) ?_
  refine gt_X9_35 C0 hw hk iX9_imageOf_X9 (by decide +kernel) dX9_imageOf_119 ?_
  refine lv_iconst (v := (0 : Int32)) hx hb dX9_imageOf_122 (by decide) ?_
  obtain ⟨b1, h⟩ := q_if h
  refine q_iald (t0 := 0) C0 hw (mN_19 hk) (mE_19 hk) rfl b1 dX9_imageOf_123 ?_
  refine lv_aload_n hx hb dX9_imageOf_124 rfl (lv_at hl 0 rfl) ?_
  refine gt_X9_35 C0 hw hk iX9_imageOf_X9 (by decide +kernel) dX9_imageOf_125 ?_
  refine lv_iconst (v := (1 : Int32)) hx hb dX9_imageOf_128 (by decide) ?_
  obtain ⟨b2, h⟩ := q_if h
  refine q_iald (t0 := 0) C0 hw (mN_19 hk) (mE_19 hk) rfl b2 dX9_imageOf_129 ?_
  refine lv_aload_n hx hb dX9_imageOf_130 rfl (lv_at hl 0 rfl) ?_
  refine gt_X9_35 C0 hw hk iX9_imageOf_X9 (by decide +kernel) dX9_imageOf_131 ?_
  refine lv_iconst (v := (2 : Int32)) hx hb dX9_imageOf_134 (by decide) ?_
  obtain ⟨b3, h⟩ := q_if h
  refine q_iald (t0 := 0) C0 hw (mN_19 hk) (mE_19 hk) rfl b3 dX9_imageOf_135 ?_
  obtain ⟨o4, hco4, h⟩ := q_bind h
  refine q_calli hw (va_runV (As := [.int (σ.1 (k + 19) (0 : Int32).toNatClampNeg), .int (σ.1 (k + 19) (1 : Int32).toNatClampNeg), .int (σ.1 (k + 19) (2 : Int32).toNatClampNeg)]) (rest := []) C0 (kX9_cubeAt hk hco4 _) (cwV 3 hts gX9_imageOf_X9_cubeAt rfl rfl rfl eX9_cubeAt ⟨(Nat.le_of_ble_eq_true rfl), (Nat.le_of_ble_eq_true rfl)⟩) ⟨q_blind, q_recv hw (mN_0 hk) (mE_0 hk) rfl, q_pre hw⟩ rfl rfl hl.1 rfl (lv_room (Nat.le_of_ble_eq_true rfl)) dX9_imageOf_136 ⟨Nat.zero_le _, Nat.zero_le _⟩) (fun H locs hw => ?_)
  exact q_iret h C0 hr hlk hw dX9_imageOf_139
set_option maxHeartbeats 4000000 in
set_option maxRecDepth 100000 in
theorem tX9_imageOf_c54 {k : Nat} {p1 : Int32} {p2 : Int32} {p3 : Int32} (hk : mB N k) (C0 : CallFix p m c cX9_imageOf 7 s args wsX9_imageOf RX9) (hr : meth.sig.returnType = (some .int)) (hlk : meth.locks = false) {out : Int32 × q_M}  : ∀ (v4 : Int32) (s0 : Int32) (σ : q_M) (H : Heap) (locs : List Loc) (ls : Array Slot), q_H (gM D cI cJ cR ad adK adV N) (q_A (gM D cI cJ cR ad adK adV N) s.heap.size) s σ H locs → lv_has ls 7 [(0, .ref (ad k)), (4, .int v4)] → fX9_imageOf_c54 k p1 p2 p3 v4 s0 σ = some out → W p l e { frames := 1, cells := 0, slots := 0, locals := 23 } s m args below meth c H locs 0 0 (MQ below (q_Ri (gM D cI cJ cR ad adK adV N) (q_A (gM D cI cJ cR ad adK adV N) s.heap.size) out) args s 0 0 (q_A (gM D cI cJ cR ad adK adV N) s.heap.size)) (F0 m 54 ls [.int s0]) := by
  obtain ⟨hx, hb, hml, hown, hts⟩ := id C0
  intro v4 s0 σ H locs ls  hw hl h
  unfold fX9_imageOf_c54 at h
  refine lv_istore (lv' := [(5, .int s0), (0, .ref (ad k)), (4, .int v4)]) hx hb dX9_imageOf_54 hl (by decide) rfl (fun ls hl => ?_)
  refine lv_aload_n hx hb dX9_imageOf_56 rfl (lv_at hl 1 rfl) ?_
  refine gt_X9_35 C0 hw hk iX9_imageOf_X9 (by decide +kernel) dX9_imageOf_57 ?_
  refine lv_iload hx hb dX9_imageOf_60 (lv_at hl 2 rfl) ?_
  obtain ⟨b1, h⟩ := q_if h
  refine q_iald (t0 := 0) C0 hw (mN_19 hk) (mE_19 hk) rfl b1 dX9_imageOf_62 ?_
  refine lv_topi (fun x2 e_x2 => ?_)
  replace h := q_let_at e_x2 h
  refine lv_istore (lv' := [(6, .int x2), (5, .int s0), (0, .ref (ad k)), (4, .int v4)]) hx hb dX9_imageOf_63 hl (by decide) rfl (fun ls hl => ?_)
  refine lv_aload_n hx hb dX9_imageOf_65 rfl (lv_at hl 2 rfl) ?_
  refine gt_X9_35 C0 hw hk iX9_imageOf_X9 (by decide +kernel) dX9_imageOf_66 ?_
  refine lv_iload hx hb dX9_imageOf_69 (lv_at hl 3 rfl) ?_
  refine lv_aload_n hx hb dX9_imageOf_71 rfl (lv_at hl 2 rfl) ?_
  refine gt_X9_35 C0 hw hk iX9_imageOf_X9 (by decide +kernel) dX9_imageOf_72 ?_
  refine lv_iload hx hb dX9_imageOf_75 (lv_at hl 1 rfl) ?_
  obtain ⟨b3, h⟩ := q_if h
  refine q_iald (t0 := 0) C0 hw (mN_19 hk) (mE_19 hk) rfl b3 dX9_imageOf_77 ?_
  obtain ⟨b4, h⟩ := q_if h
  refine q_iast (t0 := 0) C0 hw (mN_19 hk) (mE_19 hk) rfl b4 dX9_imageOf_78 (fun σ5 H locs e_σ5 hw => ?_)
  replace h := q_let_at e_σ5 h
  refine lv_aload_n hx hb dX9_imageOf_79 rfl (lv_at hl 2 rfl) ?_
  refine gt_X9_35 C0 hw hk iX9_imageOf_X9 (by decide +kernel) dX9_imageOf_80 ?_
  refine lv_iload hx hb dX9_imageOf_83 (lv_at hl 1 rfl) ?_
  refine lv_aload_n hx hb dX9_imageOf_85 rfl (lv_at hl 2 rfl) ?_
  refine gt_X9_11 C0 hw hk iX9_imageOf_X9 (by decide +kernel) dX9_imageOf_86 ?_
  refine lv_iconst (v := (1 : Int32)) hx hb dX9_imageOf_89 (by decide) ?_
  refine lv_isub hx hb dX9_imageOf_90 ?_
  refine lv_iload hx hb dX9_imageOf_91 (lv_at hl 0 rfl) ?_
  refine lv_isub hx hb dX9_imageOf_93 ?_
  obtain ⟨b6, h⟩ := q_if h
  refine q_iast (t0 := 0) C0 hw (mN_19 hk) (mE_19 hk) rfl b6 dX9_imageOf_94 (fun σ7 H locs e_σ7 hw => ?_)
  replace h := q_let_at e_σ7 h
  refine lv_goto (tgt := 117) hx hb dX9_imageOf_95 (by decide) ?_
  exact tX9_imageOf_c117 hk C0 hr hlk σ7 _ _ _ hw (lv_sub hl [2] rfl) h
set_option maxHeartbeats 4000000 in
set_option maxRecDepth 100000 in
theorem tX9_imageOf_c3 {k : Nat} {p1 : Int32} {p2 : Int32} {p3 : Int32} (hk : mB N k) (C0 : CallFix p m c cX9_imageOf 7 s args wsX9_imageOf RX9) (hr : meth.sig.returnType = (some .int)) (hlk : meth.locks = false) {out : Int32 × q_M}  : ∀ n : Nat, ∀ (v4 : Int32) (σ : q_M) (H : Heap) (locs : List Loc) (ls : Array Slot), q_H (gM D cI cJ cR ad adK adV N) (q_A (gM D cI cJ cR ad adK adV N) s.heap.size) s σ H locs → lv_has ls 7 [(0, .ref (ad k)), (1, .int p1), (2, .int p2), (3, .int p3), (4, .int v4)] → fX9_imageOf_c3 k p1 p2 p3 n v4 σ = some out → W p l e { frames := 1, cells := 0, slots := 0, locals := 23 } s m args below meth c H locs 0 0 (MQ below (q_Ri (gM D cI cJ cR ad adK adV N) (q_A (gM D cI cJ cR ad adK adV N) s.heap.size) out) args s 0 0 (q_A (gM D cI cJ cR ad adK adV N) s.heap.size)) (F0 m 3 ls []) := by
  obtain ⟨hx, hb, hml, hown, hts⟩ := id C0
  intro n
  induction n with
  | zero =>
    intro v4 σ H locs ls  hw hl h
    cases (show (none : Option (Int32 × q_M)) = some out from h)
  | succ n hrec3 =>
    intro v4 σ H locs ls  hw hl h
    replace h : fX9_imageOf_c3b k p1 p2 p3 (fX9_imageOf_c3 k p1 p2 p3 n) v4 σ = some out := h
    unfold fX9_imageOf_c3b at h
    refine lv_iload hx hb dX9_imageOf_3 (lv_at hl 4 rfl) ?_
    refine lv_iconst (v := (3 : Int32)) hx hb dX9_imageOf_5 (by decide) ?_
    refine lv_icmp_ge (tgt := 29) hx hb dX9_imageOf_6 (by decide) (fun c1 => ?_) (fun c1 => ?_)
    · replace h := q_t h c1
      refine lv_iload_n hx hb dX9_imageOf_29 rfl (lv_at hl 3 rfl) ?_
      refine lv_if_eq (tgt := 98) hx hb dX9_imageOf_30 (by decide) (fun c2 => ?_) (fun c2 => ?_)
      · replace h := q_t h c2
        refine lv_aload_n hx hb dX9_imageOf_98 rfl (lv_at hl 0 rfl) ?_
        refine gt_X9_35 C0 hw hk iX9_imageOf_X9 (by decide +kernel) dX9_imageOf_99 ?_
        refine lv_iload_n hx hb dX9_imageOf_102 rfl (lv_at hl 2 rfl) ?_
        refine lv_aload_n hx hb dX9_imageOf_103 rfl (lv_at hl 0 rfl) ?_
        refine gt_X9_11 C0 hw hk iX9_imageOf_X9 (by decide +kernel) dX9_imageOf_104 ?_
        refine lv_iconst (v := (1 : Int32)) hx hb dX9_imageOf_107 (by decide) ?_
        refine lv_isub hx hb dX9_imageOf_108 ?_
        refine lv_aload_n hx hb dX9_imageOf_109 rfl (lv_at hl 0 rfl) ?_
        refine gt_X9_35 C0 hw hk iX9_imageOf_X9 (by decide +kernel) dX9_imageOf_110 ?_
        refine lv_iload_n hx hb dX9_imageOf_113 rfl (lv_at hl 2 rfl) ?_
        obtain ⟨b3, h⟩ := q_if h
        refine q_iald (t0 := 0) C0 hw (mN_19 hk) (mE_19 hk) rfl b3 dX9_imageOf_114 ?_
        refine lv_isub hx hb dX9_imageOf_115 ?_
        obtain ⟨b4, h⟩ := q_if h
        refine q_iast (t0 := 0) C0 hw (mN_19 hk) (mE_19 hk) rfl b4 dX9_imageOf_116 (fun σ5 H locs e_σ5 hw => ?_)
        replace h := q_let_at e_σ5 h
        exact tX9_imageOf_c117 hk C0 hr hlk σ5 _ _ _ hw (lv_sub hl [0] rfl) h
      · replace h := q_f h c2
        refine lv_iload_n hx hb dX9_imageOf_33 rfl (lv_at hl 2 rfl) ?_
        refine lv_if_ne (tgt := 41) hx hb dX9_imageOf_34 (by decide) (fun c6 => ?_) (fun c6 => ?_)
        · replace h := q_f h c6
          refine lv_iconst (v := (0 : Int32)) hx hb dX9_imageOf_41 (by decide) ?_
          refine lv_istore (lv' := [(4, .int (0 : Int32)), (0, .ref (ad k)), (1, .int p1), (2, .int p2), (3, .int p3)]) hx hb dX9_imageOf_42 hl (by decide) rfl (fun ls hl => ?_)
          refine lv_iload_n hx hb dX9_imageOf_44 rfl (lv_at hl 3 rfl) ?_
          refine lv_iconst (v := (2 : Int32)) hx hb dX9_imageOf_45 (by decide) ?_
          refine lv_icmp_ne (tgt := 53) hx hb dX9_imageOf_46 (by decide) (fun c7 => ?_) (fun c7 => ?_)
          · replace h := q_f h c7
            refine lv_iconst (v := (2 : Int32)) hx hb dX9_imageOf_53 (by decide) ?_
            exact tX9_imageOf_c54 hk C0 hr hlk (0 : Int32) (2 : Int32) σ _ _ _ hw (lv_sub hl [1, 0] rfl) h
          · replace h := q_t h c7
            refine lv_iconst (v := (1 : Int32)) hx hb dX9_imageOf_49 (by decide) ?_
            refine lv_goto (tgt := 54) hx hb dX9_imageOf_50 (by decide) ?_
            exact tX9_imageOf_c54 hk C0 hr hlk (0 : Int32) (1 : Int32) σ _ _ _ hw (lv_sub hl [1, 0] rfl) h
        · replace h := q_t h c6
          refine lv_iconst (v := (1 : Int32)) hx hb dX9_imageOf_37 (by decide) ?_
          refine lv_goto (tgt := 42) hx hb dX9_imageOf_38 (by decide) ?_
          refine lv_istore (lv' := [(4, .int (1 : Int32)), (0, .ref (ad k)), (1, .int p1), (2, .int p2), (3, .int p3)]) hx hb dX9_imageOf_42 hl (by decide) rfl (fun ls hl => ?_)
          refine lv_iload_n hx hb dX9_imageOf_44 rfl (lv_at hl 3 rfl) ?_
          refine lv_iconst (v := (2 : Int32)) hx hb dX9_imageOf_45 (by decide) ?_
          refine lv_icmp_ne (tgt := 53) hx hb dX9_imageOf_46 (by decide) (fun c8 => ?_) (fun c8 => ?_)
          · replace h := q_f h c8
            refine lv_iconst (v := (2 : Int32)) hx hb dX9_imageOf_53 (by decide) ?_
            exact tX9_imageOf_c54 hk C0 hr hlk (1 : Int32) (2 : Int32) σ _ _ _ hw (lv_sub hl [1, 0] rfl) h
          · replace h := q_t h c8
            refine lv_iconst (v := (1 : Int32)) hx hb dX9_imageOf_49 (by decide) ?_
            refine lv_goto (tgt := 54) hx hb dX9_imageOf_50 (by decide) ?_
            exact tX9_imageOf_c54 hk C0 hr hlk (1 : Int32) (1 : Int32) σ _ _ _ hw (lv_sub hl [1, 0] rfl) h
    · replace h := q_f h c1
      refine lv_aload_n hx hb dX9_imageOf_9 rfl (lv_at hl 0 rfl) ?_
      refine gt_X9_35 C0 hw hk iX9_imageOf_X9 (by decide +kernel) dX9_imageOf_10 ?_
      refine lv_iload hx hb dX9_imageOf_13 (lv_at hl 4 rfl) ?_
      refine lv_aload_n hx hb dX9_imageOf_15 rfl (lv_at hl 0 rfl) ?_
      refine lv_iload_n hx hb dX9_imageOf_16 rfl (lv_at hl 1 rfl) ?_
      refine lv_iload hx hb dX9_imageOf_17 (lv_at hl 4 rfl) ?_
      obtain ⟨o9, hco9, h⟩ := q_bind h
      refine q_calli hw (va_runV (As := [.int p1, .int v4]) (rest := [.int v4, .ref (ad (k + 19))]) C0 (kX9_sideOf hk hco9 _) (cwV 2 hts gX9_imageOf_X9_sideOf rfl rfl rfl eX9_sideOf ⟨(Nat.le_of_ble_eq_true rfl), (Nat.le_of_ble_eq_true rfl)⟩) ⟨q_blind, q_recv hw (mN_0 hk) (mE_0 hk) rfl, q_pre hw⟩ rfl rfl hl.1 rfl (lv_room (Nat.le_of_ble_eq_true rfl)) dX9_imageOf_19 ⟨Nat.zero_le _, Nat.zero_le _⟩) (fun H locs hw => ?_)
      obtain ⟨b10, h⟩ := q_if h
      refine q_iast (t0 := 0) C0 hw (mN_19 hk) (mE_19 hk) rfl b10 dX9_imageOf_22 (fun σ11 H locs e_σ11 hw => ?_)
      replace h := q_let_at e_σ11 h
      refine lv_iinc (v := (v4 + (1 : Int32))) (lv' := [(4, .int (v4 + (1 : Int32))), (0, .ref (ad k)), (1, .int p1), (2, .int p2), (3, .int p3)]) hx hb dX9_imageOf_23 hl (k := 4) rfl rfl (by decide) rfl (fun ls hl => ?_)
      refine lv_goto (tgt := 3) hx hb dX9_imageOf_26 (by decide) ?_
      exact hrec3 (v4 + (1 : Int32)) σ11 _ _ _ hw (lv_sub hl [1, 2, 3, 4, 0] rfl) h
set_option maxHeartbeats 4000000 in
set_option maxRecDepth 100000 in
theorem kX9_imageOf {k : Nat} {p1 : Int32} {p2 : Int32} {p3 : Int32} (hk : mB N k) {σ : q_M} {out : Int32 × q_M} (h : fX9_imageOf k p1 p2 p3 σ = some out) : q_Mi l (gM D cI cJ cR ad adK adV N) yX9_imageOf wsX9_imageOf { frames := 1, cells := 0, slots := 0, locals := 23 } [.ref (ad k), .int p1, .int p2, .int p3] σ out := by
  refine q_Mi_of (cc := cX9_imageOf) (maxL := 7) (ret := (some .int)) (by decide) rfl (Nat.le_of_ble_eq_true rfl) ?_
  intro p e s m below meth c ls C0 hr hlk hl hw
  obtain ⟨hx, hb, hml, hown, hts⟩ := id C0
  replace hl : lv_has ls 7 [(0, .ref (ad k)), (1, .int p1), (2, .int p2), (3, .int p3)] := hl
  unfold fX9_imageOf at h
  refine lv_iconst (v := (0 : Int32)) hx hb dX9_imageOf_0 (by decide) ?_
  refine lv_istore (lv' := [(4, .int (0 : Int32)), (0, .ref (ad k)), (1, .int p1), (2, .int p2), (3, .int p3)]) hx hb dX9_imageOf_1 hl (by decide) rfl (fun ls hl => ?_)
  exact tX9_imageOf_c3 hk C0 hr hlk q_FU (0 : Int32) σ _ _ _ hw (lv_sub hl [1, 2, 3, 4, 0] rfl) h
-- X9_imagesOf imagesOf(JIZ)J
theorem eX9_imageOf : yX9_imageOf.cls = RX9 ∧ yX9_imageOf.cls ≠ "java/lang/invoke/MethodHandle" ∧ yX9_imageOf.cls ≠ "java/lang/invoke/VarHandle" ∧ (parseMethodDescriptor yX9_imageOf.desc).map (fun d => d.parameters.length) = some 3 := by decide +kernel
set_option maxHeartbeats 4000000 in
set_option maxRecDepth 100000 in
theorem tX9_imagesOf_c6 {k : Nat} {p1 : Int64} {p3 : Int32} {p4 : Int32} (hk : mB N k) (C0 : CallFix p m c cX9_imagesOf 8 s args wsX9_imagesOf RX9) (hr : meth.sig.returnType = (some .long)) (hlk : meth.locks = false) {out : Int64 × q_M}  : ∀ n : Nat, ∀ (v5 : Int64) (v7 : Int32) (σ : q_M) (H : Heap) (locs : List Loc) (ls : Array Slot), q_H (gM D cI cJ cR ad adK adV N) (q_A (gM D cI cJ cR ad adK adV N) s.heap.size) s σ H locs → lv_has ls 8 [(0, .ref (ad k)), (1, .long p1), (3, .int p3), (4, .int p4), (5, .long v5), (7, .int v7)] → fX9_imagesOf_c6 k p1 p3 p4 n v5 v7 σ = some out → W p l e { frames := 2, cells := 0, slots := 0, locals := 49 } s m args below meth c H locs 0 0 (MQ below (q_Rl (gM D cI cJ cR ad adK adV N) (q_A (gM D cI cJ cR ad adK adV N) s.heap.size) out) args s 0 0 (q_A (gM D cI cJ cR ad adK adV N) s.heap.size)) (F0 m 6 ls []) := by
  obtain ⟨hx, hb, hml, hown, hts⟩ := id C0
  intro n
  induction n with
  | zero =>
    intro v5 v7 σ H locs ls  hw hl h
    cases (show (none : Option (Int64 × q_M)) = some out from h)
  | succ n hrec6 =>
    intro v5 v7 σ H locs ls  hw hl h
    replace h : fX9_imagesOf_c6b k p1 p3 p4 (fX9_imagesOf_c6 k p1 p3 p4 n) v5 v7 σ = some out := h
    unfold fX9_imagesOf_c6b at h
    refine lv_iload hx hb dX9_imagesOf_6 (lv_at hl 5 rfl) ?_
    refine lv_aload_n hx hb dX9_imagesOf_8 rfl (lv_at hl 0 rfl) ?_
    obtain ⟨o1, hco1, h⟩ := q_bind h
    refine q_calli hw (va_runV (As := []) (rest := [.int v7]) C0 (kX9_many hk hco1 _) (cwV 0 hts gX9_imagesOf_X9_many rfl rfl rfl eX9_many ⟨(Nat.le_of_ble_eq_true rfl), (Nat.le_of_ble_eq_true rfl)⟩) ⟨q_blind, q_recv hw (mN_0 hk) (mE_0 hk) rfl, q_pre hw⟩ rfl rfl hl.1 rfl (lv_room (Nat.le_of_ble_eq_true rfl)) dX9_imagesOf_9 ⟨Nat.zero_le _, Nat.zero_le _⟩) (fun H locs hw => ?_)
    refine lv_icmp_ge (tgt := 50) hx hb dX9_imagesOf_12 (by decide) (fun c2 => ?_) (fun c2 => ?_)
    · replace h := q_t h c2
      refine lv_lload hx hb dX9_imagesOf_50 (lv_at hl 4 rfl) ?_
      exact q_lret h C0 hr hlk hw dX9_imagesOf_52
    · replace h := q_f h c2
      refine lv_lload hx hb dX9_imagesOf_15 (lv_at hl 4 rfl) ?_
      refine lv_lload_n hx hb dX9_imagesOf_17 rfl (lv_at hl 1 rfl) ?_
      refine lv_iload hx hb dX9_imagesOf_18 (lv_at hl 5 rfl) ?_
      obtain ⟨o3, hco3, h⟩ := q_bind h
      refine q_calli hw (va_runS (As := [.long p1, .int v7]) (rest := [.long v5]) C0 (kX9_has hco3 _) (va_cwS 2 hts gX9_imagesOf_X9_has rfl rfl rfl eX9_has ⟨(Nat.le_of_ble_eq_true rfl), (Nat.le_of_ble_eq_true rfl)⟩) ⟨q_blind, q_pre hw⟩ rfl rfl hl.1 rfl (lv_room (Nat.le_of_ble_eq_true rfl)) dX9_imagesOf_20 ⟨Nat.zero_le _, Nat.zero_le _⟩) (fun H locs hw => ?_)
      refine lv_if_eq (tgt := 40) hx hb dX9_imagesOf_23 (by decide) (fun c4 => ?_) (fun c4 => ?_)
      · replace h := q_t h c4
        refine lv_lconst (v := (0 : Int64)) hx hb dX9_imagesOf_40 (by decide) ?_
        refine lv_lor hx hb dX9_imagesOf_41 ?_
        refine lv_lstore (lv' := [(5, .long (v5 ||| (0 : Int64))), (0, .ref (ad k)), (1, .long p1), (3, .int p3), (4, .int p4), (7, .int v7)]) hx hb dX9_imagesOf_42 hl (by decide) rfl (fun ls hl => ?_)
        refine lv_iinc (v := (v7 + (1 : Int32))) (lv' := [(7, .int (v7 + (1 : Int32))), (5, .long (v5 ||| (0 : Int64))), (0, .ref (ad k)), (1, .long p1), (3, .int p3), (4, .int p4)]) hx hb dX9_imagesOf_44 hl (k := 5) rfl rfl (by decide) rfl (fun ls hl => ?_)
        refine lv_goto (tgt := 6) hx hb dX9_imagesOf_47 (by decide) ?_
        exact hrec6 (v5 ||| (0 : Int64)) (v7 + (1 : Int32)) o3.2 _ _ _ hw (lv_sub hl [2, 3, 4, 5, 1, 0] rfl) h
      · replace h := q_f h c4
        refine lv_lconst (v := (1 : Int64)) hx hb dX9_imagesOf_26 (by decide) ?_
        refine lv_aload_n hx hb dX9_imagesOf_27 rfl (lv_at hl 0 rfl) ?_
        refine lv_iload hx hb dX9_imagesOf_28 (lv_at hl 5 rfl) ?_
        refine lv_iload_n hx hb dX9_imagesOf_30 rfl (lv_at hl 2 rfl) ?_
        refine lv_iload hx hb dX9_imagesOf_31 (lv_at hl 3 rfl) ?_
        obtain ⟨o5, hco5, h⟩ := q_bind h
        refine q_calli hw (va_runV (As := [.int v7, .int p3, .int p4]) (rest := [.long (1 : Int64), .long v5]) C0 (kX9_imageOf hk hco5 _) (cwV 3 hts gX9_imagesOf_X9_imageOf rfl rfl rfl eX9_imageOf ⟨(Nat.le_of_ble_eq_true rfl), (Nat.le_of_ble_eq_true rfl)⟩) ⟨q_blind, q_recv hw (mN_0 hk) (mE_0 hk) rfl, q_pre hw⟩ rfl rfl hl.1 rfl (lv_room (Nat.le_of_ble_eq_true rfl)) dX9_imagesOf_33 ⟨Nat.zero_le _, Nat.zero_le _⟩) (fun H locs hw => ?_)
        refine lv_lshl (v := (q_shl (1 : Int64) o5.1)) hx hb dX9_imagesOf_36 rfl ?_
        refine lv_goto (tgt := 41) hx hb dX9_imagesOf_37 (by decide) ?_
        refine lv_lor hx hb dX9_imagesOf_41 ?_
        refine lv_topl (fun x6 e_x6 => ?_)
        replace h := q_let_at e_x6 h
        refine lv_lstore (lv' := [(5, .long x6), (0, .ref (ad k)), (1, .long p1), (3, .int p3), (4, .int p4), (7, .int v7)]) hx hb dX9_imagesOf_42 hl (by decide) rfl (fun ls hl => ?_)
        refine lv_iinc (v := (v7 + (1 : Int32))) (lv' := [(7, .int (v7 + (1 : Int32))), (5, .long x6), (0, .ref (ad k)), (1, .long p1), (3, .int p3), (4, .int p4)]) hx hb dX9_imagesOf_44 hl (k := 5) rfl rfl (by decide) rfl (fun ls hl => ?_)
        refine lv_goto (tgt := 6) hx hb dX9_imagesOf_47 (by decide) ?_
        exact hrec6 x6 (v7 + (1 : Int32)) o5.2 _ _ _ hw (lv_sub hl [2, 3, 4, 5, 1, 0] rfl) h
set_option maxHeartbeats 4000000 in
set_option maxRecDepth 100000 in
theorem kX9_imagesOf {k : Nat} {p1 : Int64} {p3 : Int32} {p4 : Int32} (hk : mB N k) {σ : q_M} {out : Int64 × q_M} (h : fX9_imagesOf k p1 p3 p4 σ = some out) : q_Ml l (gM D cI cJ cR ad adK adV N) yX9_imagesOf wsX9_imagesOf { frames := 2, cells := 0, slots := 0, locals := 49 } [.ref (ad k), .long p1, .int p3, .int p4] σ out := by
  refine q_Ml_of (cc := cX9_imagesOf) (maxL := 8) (ret := (some .long)) (by decide) rfl (Nat.le_of_ble_eq_true rfl) ?_
  intro p e s m below meth c ls C0 hr hlk hl hw
  obtain ⟨hx, hb, hml, hown, hts⟩ := id C0
  replace hl : lv_has ls 8 [(0, .ref (ad k)), (1, .long p1), (3, .int p3), (4, .int p4)] := hl
  unfold fX9_imagesOf at h
  refine lv_lconst (v := (0 : Int64)) hx hb dX9_imagesOf_0 (by decide) ?_
  refine lv_lstore (lv' := [(5, .long (0 : Int64)), (0, .ref (ad k)), (1, .long p1), (3, .int p3), (4, .int p4)]) hx hb dX9_imagesOf_1 hl (by decide) rfl (fun ls hl => ?_)
  refine lv_iconst (v := (0 : Int32)) hx hb dX9_imagesOf_3 (by decide) ?_
  refine lv_istore (lv' := [(7, .int (0 : Int32)), (5, .long (0 : Int64)), (0, .ref (ad k)), (1, .long p1), (3, .int p3), (4, .int p4)]) hx hb dX9_imagesOf_4 hl (by decide) rfl (fun ls hl => ?_)
  exact tX9_imagesOf_c6 hk C0 hr hlk q_FU (0 : Int64) (0 : Int32) σ _ _ _ hw (lv_sub hl [2, 3, 4, 5, 1, 0] rfl) h
-- X9_alike alike()I
theorem iX9_alike_X9 : ∀ w ∈ wsX90, w ∈ wsX9_alike := by decide +kernel
theorem eX9_imagesOf : yX9_imagesOf.cls = RX9 ∧ yX9_imagesOf.cls ≠ "java/lang/invoke/MethodHandle" ∧ yX9_imagesOf.cls ≠ "java/lang/invoke/VarHandle" ∧ (parseMethodDescriptor yX9_imagesOf.desc).map (fun d => d.parameters.length) = some 3 := by decide +kernel
set_option maxHeartbeats 4000000 in
set_option maxRecDepth 100000 in
theorem tX9_alike_c4 {k : Nat} (hk : mB N k) (C0 : CallFix p m c cX9_alike 3 s args wsX9_alike RX9) (hr : meth.sig.returnType = (some .int)) (hlk : meth.locks = false) {out : Int32 × q_M}  : ∀ n : Nat, ∀ (v1 : Int32) (v2 : Int32) (σ : q_M) (H : Heap) (locs : List Loc) (ls : Array Slot), q_H (gM D cI cJ cR ad adK adV N) (q_A (gM D cI cJ cR ad adK adV N) s.heap.size) s σ H locs → lv_has ls 3 [(0, .ref (ad k)), (1, .int v1), (2, .int v2)] → fX9_alike_c4 k n v1 v2 σ = some out → W p l e { frames := 3, cells := 0, slots := 0, locals := 76 } s m args below meth c H locs 0 0 (MQ below (q_Ri (gM D cI cJ cR ad adK adV N) (q_A (gM D cI cJ cR ad adK adV N) s.heap.size) out) args s 0 0 (q_A (gM D cI cJ cR ad adK adV N) s.heap.size)) (F0 m 4 ls []) := by
  obtain ⟨hx, hb, hml, hown, hts⟩ := id C0
  intro n
  induction n with
  | zero =>
    intro v1 v2 σ H locs ls  hw hl h
    cases (show (none : Option (Int32 × q_M)) = some out from h)
  | succ n hrec4 =>
    intro v1 v2 σ H locs ls  hw hl h
    replace h : fX9_alike_c4b k (fX9_alike_c4 k n) v1 v2 σ = some out := h
    unfold fX9_alike_c4b at h
    refine lv_iload_n hx hb dX9_alike_4 rfl (lv_at hl 2 rfl) ?_
    refine lv_iconst (v := (3 : Int32)) hx hb dX9_alike_5 (by decide) ?_
    refine lv_icmp_ge (tgt := 43) hx hb dX9_alike_6 (by decide) (fun c1 => ?_) (fun c1 => ?_)
    · replace h := q_t h c1
      refine lv_iload_n hx hb dX9_alike_43 rfl (lv_at hl 1 rfl) ?_
      exact q_iret h C0 hr hlk hw dX9_alike_44
    · replace h := q_f h c1
      refine lv_iload_n hx hb dX9_alike_9 rfl (lv_at hl 1 rfl) ?_
      refine lv_aload_n hx hb dX9_alike_10 rfl (lv_at hl 0 rfl) ?_
      refine lv_aload_n hx hb dX9_alike_11 rfl (lv_at hl 0 rfl) ?_
      refine gt_X9_12 C0 hw hk iX9_alike_X9 (by decide +kernel) dX9_alike_12 ?_
      refine lv_iload_n hx hb dX9_alike_15 rfl (lv_at hl 2 rfl) ?_
      refine lv_iconst (v := (0 : Int32)) hx hb dX9_alike_16 (by decide) ?_
      obtain ⟨o2, hco2, h⟩ := q_bind h
      refine q_calll hw (va_runV (As := [.long (σ.2 k 12), .int v2, .int (0 : Int32)]) (rest := [.int v1]) C0 (kX9_imagesOf hk hco2 _) (cwV 3 hts gX9_alike_X9_imagesOf rfl rfl rfl eX9_imagesOf ⟨(Nat.le_of_ble_eq_true rfl), (Nat.le_of_ble_eq_true rfl)⟩) ⟨q_blind, q_recv hw (mN_0 hk) (mE_0 hk) rfl, q_pre hw⟩ rfl rfl hl.1 rfl (lv_room (Nat.le_of_ble_eq_true rfl)) dX9_alike_17 ⟨Nat.zero_le _, Nat.zero_le _⟩) (fun H locs hw => ?_)
      refine lv_aload_n hx hb dX9_alike_20 rfl (lv_at hl 0 rfl) ?_
      refine gt_X9_12 C0 hw hk iX9_alike_X9 (by decide +kernel) dX9_alike_21 ?_
      refine q_lcmp_ne (tgt := 34) C0 dX9_alike_24 dX9_alike_25 (by decide) (fun c3 => ?_) (fun c3 => ?_)
      · replace h := q_f h c3
        refine lv_iconst (v := (0 : Int32)) hx hb dX9_alike_34 (by decide) ?_
        refine lv_ior hx hb dX9_alike_35 ?_
        refine lv_istore_n (lv' := [(1, .int (v1 ||| (0 : Int32))), (0, .ref (ad k)), (2, .int v2)]) hx hb dX9_alike_36 rfl hl (by decide) rfl (fun ls hl => ?_)
        refine lv_iinc (v := (v2 + (1 : Int32))) (lv' := [(2, .int (v2 + (1 : Int32))), (1, .int (v1 ||| (0 : Int32))), (0, .ref (ad k))]) hx hb dX9_alike_37 hl (k := 2) rfl rfl (by decide) rfl (fun ls hl => ?_)
        refine lv_goto (tgt := 4) hx hb dX9_alike_40 (by decide) ?_
        exact hrec4 (v1 ||| (0 : Int32)) (v2 + (1 : Int32)) o2.2 _ _ _ hw (lv_sub hl [2, 1, 0] rfl) h
      · replace h := q_t h c3
        refine lv_iconst (v := (1 : Int32)) hx hb dX9_alike_28 (by decide) ?_
        refine lv_iload_n hx hb dX9_alike_29 rfl (lv_at hl 2 rfl) ?_
        refine q_ishl (v := (q_sl (1 : Int32) v2)) C0 dX9_alike_30 rfl ?_
        refine lv_goto (tgt := 35) hx hb dX9_alike_31 (by decide) ?_
        refine lv_ior hx hb dX9_alike_35 ?_
        refine lv_topi (fun x4 e_x4 => ?_)
        replace h := q_let_at e_x4 h
        refine lv_istore_n (lv' := [(1, .int x4), (0, .ref (ad k)), (2, .int v2)]) hx hb dX9_alike_36 rfl hl (by decide) rfl (fun ls hl => ?_)
        refine lv_iinc (v := (v2 + (1 : Int32))) (lv' := [(2, .int (v2 + (1 : Int32))), (1, .int x4), (0, .ref (ad k))]) hx hb dX9_alike_37 hl (k := 2) rfl rfl (by decide) rfl (fun ls hl => ?_)
        refine lv_goto (tgt := 4) hx hb dX9_alike_40 (by decide) ?_
        exact hrec4 x4 (v2 + (1 : Int32)) o2.2 _ _ _ hw (lv_sub hl [2, 1, 0] rfl) h
set_option maxHeartbeats 4000000 in
set_option maxRecDepth 100000 in
theorem kX9_alike {k : Nat} (hk : mB N k) {σ : q_M} {out : Int32 × q_M} (h : fX9_alike k σ = some out) : q_Mi l (gM D cI cJ cR ad adK adV N) yX9_alike wsX9_alike { frames := 3, cells := 0, slots := 0, locals := 76 } [.ref (ad k)] σ out := by
  refine q_Mi_of (cc := cX9_alike) (maxL := 3) (ret := (some .int)) (by decide) rfl (Nat.le_of_ble_eq_true rfl) ?_
  intro p e s m below meth c ls C0 hr hlk hl hw
  obtain ⟨hx, hb, hml, hown, hts⟩ := id C0
  replace hl : lv_has ls 3 [(0, .ref (ad k))] := hl
  unfold fX9_alike at h
  refine lv_iconst (v := (0 : Int32)) hx hb dX9_alike_0 (by decide) ?_
  refine lv_istore_n (lv' := [(1, .int (0 : Int32)), (0, .ref (ad k))]) hx hb dX9_alike_1 rfl hl (by decide) rfl (fun ls hl => ?_)
  refine lv_iconst (v := (0 : Int32)) hx hb dX9_alike_2 (by decide) ?_
  refine lv_istore_n (lv' := [(2, .int (0 : Int32)), (1, .int (0 : Int32)), (0, .ref (ad k))]) hx hb dX9_alike_3 rfl hl (by decide) rfl (fun ls hl => ?_)
  exact tX9_alike_c4 hk C0 hr hlk q_FU (0 : Int32) (0 : Int32) σ _ _ _ hw (lv_sub hl [2, 1, 0] rfl) h
-- X9_becomes becomes(IZ)I
theorem iX9_becomes_X9 : ∀ w ∈ wsX90, w ∈ wsX9_becomes := by decide +kernel
set_option maxHeartbeats 4000000 in
set_option maxRecDepth 100000 in
theorem tX9_becomes_c97 {k : Nat} {p1 : Int32} {p2 : Int32} (hk : mB N k) (C0 : CallFix p m c cX9_becomes 4 s args wsX9_becomes RX9) (hr : meth.sig.returnType = (some .int)) (hlk : meth.locks = false) {out : Int32 × q_M}  : ∀ n : Nat, ∀ (v3 : Int32) (σ : q_M) (H : Heap) (locs : List Loc) (ls : Array Slot), q_H (gM D cI cJ cR ad adK adV N) (q_A (gM D cI cJ cR ad adK adV N) s.heap.size) s σ H locs → lv_has ls 4 [(0, .ref (ad k)), (1, .int p1), (2, .int p2), (3, .int v3)] → fX9_becomes_c97 k p1 p2 n v3 σ = some out → W p l e { frames := 3, cells := 0, slots := 0, locals := 76 } s m args below meth c H locs 0 0 (MQ below (q_Ri (gM D cI cJ cR ad adK adV N) (q_A (gM D cI cJ cR ad adK adV N) s.heap.size) out) args s 0 0 (q_A (gM D cI cJ cR ad adK adV N) s.heap.size)) (F0 m 97 ls []) := by
  obtain ⟨hx, hb, hml, hown, hts⟩ := id C0
  intro n
  induction n with
  | zero =>
    intro v3 σ H locs ls  hw hl h
    cases (show (none : Option (Int32 × q_M)) = some out from h)
  | succ n hrec97 =>
    intro v3 σ H locs ls  hw hl h
    replace h : fX9_becomes_c97b k p1 p2 (fX9_becomes_c97 k p1 p2 n) v3 σ = some out := h
    unfold fX9_becomes_c97b at h
    refine lv_iload_n hx hb dX9_becomes_97 rfl (lv_at hl 3 rfl) ?_
    refine lv_aload_n hx hb dX9_becomes_98 rfl (lv_at hl 0 rfl) ?_
    obtain ⟨o1, hco1, h⟩ := q_bind h
    refine q_calli hw (va_runV (As := []) (rest := [.int v3]) C0 (kX9_many hk hco1 _) (cwV 0 hts gX9_becomes_X9_many rfl rfl rfl eX9_many ⟨(Nat.le_of_ble_eq_true rfl), (Nat.le_of_ble_eq_true rfl)⟩) ⟨q_blind, q_recv hw (mN_0 hk) (mE_0 hk) rfl, q_pre hw⟩ rfl rfl hl.1 rfl (lv_room (Nat.le_of_ble_eq_true rfl)) dX9_becomes_99 ⟨Nat.zero_le _, Nat.zero_le _⟩) (fun H locs hw => ?_)
    refine lv_icmp_ge (tgt := 129) hx hb dX9_becomes_102 (by decide) (fun c2 => ?_) (fun c2 => ?_)
    · replace h := q_t h c2
      refine lv_iconst (v := (1 : Int32)) hx hb dX9_becomes_129 (by decide) ?_
      exact q_iret h C0 hr hlk hw dX9_becomes_130
    · replace h := q_f h c2
      refine lv_aload_n hx hb dX9_becomes_105 rfl (lv_at hl 0 rfl) ?_
      refine gt_X9_16 C0 hw hk iX9_becomes_X9 (by decide +kernel) dX9_becomes_106 ?_
      refine lv_aload_n hx hb dX9_becomes_109 rfl (lv_at hl 0 rfl) ?_
      refine lv_iload_n hx hb dX9_becomes_110 rfl (lv_at hl 3 rfl) ?_
      refine lv_iload_n hx hb dX9_becomes_111 rfl (lv_at hl 1 rfl) ?_
      refine lv_iload_n hx hb dX9_becomes_112 rfl (lv_at hl 2 rfl) ?_
      obtain ⟨o3, hco3, h⟩ := q_bind h
      refine q_calli hw (va_runV (As := [.int v3, .int p1, .int p2]) (rest := [.ref (ad (k + 12))]) C0 (kX9_imageOf hk hco3 _) (cwV 3 hts gX9_becomes_X9_imageOf rfl rfl rfl eX9_imageOf ⟨(Nat.le_of_ble_eq_true rfl), (Nat.le_of_ble_eq_true rfl)⟩) ⟨q_blind, q_recv hw (mN_0 hk) (mE_0 hk) rfl, q_pre hw⟩ rfl rfl hl.1 rfl (lv_room (Nat.le_of_ble_eq_true rfl)) dX9_becomes_113 ⟨Nat.zero_le _, Nat.zero_le _⟩) (fun H locs hw => ?_)
      refine lv_aload_n hx hb dX9_becomes_116 rfl (lv_at hl 0 rfl) ?_
      refine gt_X9_36 C0 hw hk iX9_becomes_X9 (by decide +kernel) dX9_becomes_117 ?_
      refine lv_iload_n hx hb dX9_becomes_120 rfl (lv_at hl 3 rfl) ?_
      obtain ⟨b4, h⟩ := q_if h
      refine q_iald (t0 := 0) C0 hw (mN_20 hk) (mE_20 hk) rfl b4 dX9_becomes_121 ?_
      obtain ⟨b5, h⟩ := q_if h
      refine q_iast (t0 := 0) C0 hw (mN_12 hk) (mE_12 hk) rfl b5 dX9_becomes_122 (fun σ6 H locs e_σ6 hw => ?_)
      replace h := q_let_at e_σ6 h
      refine lv_iinc (v := (v3 + (1 : Int32))) (lv' := [(3, .int (v3 + (1 : Int32))), (0, .ref (ad k)), (1, .int p1), (2, .int p2)]) hx hb dX9_becomes_123 hl (k := 3) rfl rfl (by decide) rfl (fun ls hl => ?_)
      refine lv_goto (tgt := 97) hx hb dX9_becomes_126 (by decide) ?_
      exact hrec97 (v3 + (1 : Int32)) σ6 _ _ _ hw (lv_sub hl [1, 2, 3, 0] rfl) h
set_option maxHeartbeats 4000000 in
set_option maxRecDepth 100000 in
theorem tX9_becomes_c69 {k : Nat} {p1 : Int32} {p2 : Int32} (hk : mB N k) (C0 : CallFix p m c cX9_becomes 4 s args wsX9_becomes RX9) (hr : meth.sig.returnType = (some .int)) (hlk : meth.locks = false) {out : Int32 × q_M}  : ∀ n : Nat, ∀ (v3 : Int32) (σ : q_M) (H : Heap) (locs : List Loc) (ls : Array Slot), q_H (gM D cI cJ cR ad adK adV N) (q_A (gM D cI cJ cR ad adK adV N) s.heap.size) s σ H locs → lv_has ls 4 [(0, .ref (ad k)), (1, .int p1), (2, .int p2), (3, .int v3)] → fX9_becomes_c69 k p1 p2 n v3 σ = some out → W p l e { frames := 3, cells := 0, slots := 0, locals := 76 } s m args below meth c H locs 0 0 (MQ below (q_Ri (gM D cI cJ cR ad adK adV N) (q_A (gM D cI cJ cR ad adK adV N) s.heap.size) out) args s 0 0 (q_A (gM D cI cJ cR ad adK adV N) s.heap.size)) (F0 m 69 ls []) := by
  obtain ⟨hx, hb, hml, hown, hts⟩ := id C0
  intro n
  induction n with
  | zero =>
    intro v3 σ H locs ls  hw hl h
    cases (show (none : Option (Int32 × q_M)) = some out from h)
  | succ n hrec69 =>
    intro v3 σ H locs ls  hw hl h
    replace h : fX9_becomes_c69b k p1 p2 (fX9_becomes_c69 k p1 p2 n) v3 σ = some out := h
    unfold fX9_becomes_c69b at h
    refine lv_iload_n hx hb dX9_becomes_69 rfl (lv_at hl 3 rfl) ?_
    refine lv_aload_n hx hb dX9_becomes_70 rfl (lv_at hl 0 rfl) ?_
    obtain ⟨o1, hco1, h⟩ := q_bind h
    refine q_calli hw (va_runV (As := []) (rest := [.int v3]) C0 (kX9_many hk hco1 _) (cwV 0 hts gX9_becomes_X9_many rfl rfl rfl eX9_many ⟨(Nat.le_of_ble_eq_true rfl), (Nat.le_of_ble_eq_true rfl)⟩) ⟨q_blind, q_recv hw (mN_0 hk) (mE_0 hk) rfl, q_pre hw⟩ rfl rfl hl.1 rfl (lv_room (Nat.le_of_ble_eq_true rfl)) dX9_becomes_71 ⟨Nat.zero_le _, Nat.zero_le _⟩) (fun H locs hw => ?_)
    refine lv_icmp_ge (tgt := 95) hx hb dX9_becomes_74 (by decide) (fun c2 => ?_) (fun c2 => ?_)
    · replace h := q_t h c2
      refine lv_iconst (v := (0 : Int32)) hx hb dX9_becomes_95 (by decide) ?_
      refine lv_istore_n (lv' := [(3, .int (0 : Int32)), (0, .ref (ad k)), (1, .int p1), (2, .int p2)]) hx hb dX9_becomes_96 rfl hl (by decide) rfl (fun ls hl => ?_)
      exact tX9_becomes_c97 hk C0 hr hlk q_FU (0 : Int32) o1.2 _ _ _ hw (lv_sub hl [1, 2, 3, 0] rfl) h
    · replace h := q_f h c2
      refine lv_aload_n hx hb dX9_becomes_77 rfl (lv_at hl 0 rfl) ?_
      refine gt_X9_36 C0 hw hk iX9_becomes_X9 (by decide +kernel) dX9_becomes_78 ?_
      refine lv_iload_n hx hb dX9_becomes_81 rfl (lv_at hl 3 rfl) ?_
      refine lv_aload_n hx hb dX9_becomes_82 rfl (lv_at hl 0 rfl) ?_
      refine gt_X9_16 C0 hw hk iX9_becomes_X9 (by decide +kernel) dX9_becomes_83 ?_
      refine lv_iload_n hx hb dX9_becomes_86 rfl (lv_at hl 3 rfl) ?_
      obtain ⟨b3, h⟩ := q_if h
      refine q_iald (t0 := 0) C0 hw (mN_12 hk) (mE_12 hk) rfl b3 dX9_becomes_87 ?_
      obtain ⟨b4, h⟩ := q_if h
      refine q_iast (t0 := 0) C0 hw (mN_20 hk) (mE_20 hk) rfl b4 dX9_becomes_88 (fun σ5 H locs e_σ5 hw => ?_)
      replace h := q_let_at e_σ5 h
      refine lv_iinc (v := (v3 + (1 : Int32))) (lv' := [(3, .int (v3 + (1 : Int32))), (0, .ref (ad k)), (1, .int p1), (2, .int p2)]) hx hb dX9_becomes_89 hl (k := 3) rfl rfl (by decide) rfl (fun ls hl => ?_)
      refine lv_goto (tgt := 69) hx hb dX9_becomes_92 (by decide) ?_
      exact hrec69 (v3 + (1 : Int32)) σ5 _ _ _ hw (lv_sub hl [1, 2, 3, 0] rfl) h
set_option maxHeartbeats 4000000 in
set_option maxRecDepth 100000 in
theorem tX9_becomes_c35 {k : Nat} {p1 : Int32} {p2 : Int32} (hk : mB N k) (C0 : CallFix p m c cX9_becomes 4 s args wsX9_becomes RX9) (hr : meth.sig.returnType = (some .int)) (hlk : meth.locks = false) {out : Int32 × q_M}  : ∀ n : Nat, ∀ (v3 : Int32) (σ : q_M) (H : Heap) (locs : List Loc) (ls : Array Slot), q_H (gM D cI cJ cR ad adK adV N) (q_A (gM D cI cJ cR ad adK adV N) s.heap.size) s σ H locs → lv_has ls 4 [(0, .ref (ad k)), (1, .int p1), (2, .int p2), (3, .int v3)] → fX9_becomes_c35 k p1 p2 n v3 σ = some out → W p l e { frames := 3, cells := 0, slots := 0, locals := 76 } s m args below meth c H locs 0 0 (MQ below (q_Ri (gM D cI cJ cR ad adK adV N) (q_A (gM D cI cJ cR ad adK adV N) s.heap.size) out) args s 0 0 (q_A (gM D cI cJ cR ad adK adV N) s.heap.size)) (F0 m 35 ls []) := by
  obtain ⟨hx, hb, hml, hown, hts⟩ := id C0
  intro n
  induction n with
  | zero =>
    intro v3 σ H locs ls  hw hl h
    cases (show (none : Option (Int32 × q_M)) = some out from h)
  | succ n hrec35 =>
    intro v3 σ H locs ls  hw hl h
    replace h : fX9_becomes_c35b k p1 p2 (fX9_becomes_c35 k p1 p2 n) v3 σ = some out := h
    unfold fX9_becomes_c35b at h
    refine lv_iload_n hx hb dX9_becomes_35 rfl (lv_at hl 3 rfl) ?_
    refine lv_aload_n hx hb dX9_becomes_36 rfl (lv_at hl 0 rfl) ?_
    refine gt_X9_13 C0 hw hk iX9_becomes_X9 (by decide +kernel) dX9_becomes_37 ?_
    refine lv_icmp_ge (tgt := 67) hx hb dX9_becomes_40 (by decide) (fun c1 => ?_) (fun c1 => ?_)
    · replace h := q_t h c1
      refine lv_iconst (v := (0 : Int32)) hx hb dX9_becomes_67 (by decide) ?_
      refine lv_istore_n (lv' := [(3, .int (0 : Int32)), (0, .ref (ad k)), (1, .int p1), (2, .int p2)]) hx hb dX9_becomes_68 rfl hl (by decide) rfl (fun ls hl => ?_)
      exact tX9_becomes_c69 hk C0 hr hlk q_FU (0 : Int32) σ _ _ _ hw (lv_sub hl [1, 2, 3, 0] rfl) h
    · replace h := q_f h c1
      refine lv_aload_n hx hb dX9_becomes_43 rfl (lv_at hl 0 rfl) ?_
      refine gt_X9_14 C0 hw hk iX9_becomes_X9 (by decide +kernel) dX9_becomes_44 ?_
      refine lv_iload_n hx hb dX9_becomes_47 rfl (lv_at hl 3 rfl) ?_
      refine lv_aload_n hx hb dX9_becomes_48 rfl (lv_at hl 0 rfl) ?_
      refine lv_aload_n hx hb dX9_becomes_49 rfl (lv_at hl 0 rfl) ?_
      refine gt_X9_14 C0 hw hk iX9_becomes_X9 (by decide +kernel) dX9_becomes_50 ?_
      refine lv_iload_n hx hb dX9_becomes_53 rfl (lv_at hl 3 rfl) ?_
      obtain ⟨b2, h⟩ := q_if h
      refine q_lald (t0 := 1) C0 hw (mN_11 hk) (mE_11 hk) rfl b2 dX9_becomes_54 ?_
      refine lv_iload_n hx hb dX9_becomes_55 rfl (lv_at hl 1 rfl) ?_
      refine lv_iload_n hx hb dX9_becomes_56 rfl (lv_at hl 2 rfl) ?_
      obtain ⟨o3, hco3, h⟩ := q_bind h
      refine q_calll hw (va_runV (As := [.long (σ.2 (k + 11) v3.toNatClampNeg), .int p1, .int p2]) (rest := [.int v3, .ref (ad (k + 11))]) C0 (kX9_imagesOf hk hco3 _) (cwV 3 hts gX9_becomes_X9_imagesOf rfl rfl rfl eX9_imagesOf ⟨(Nat.le_of_ble_eq_true rfl), (Nat.le_of_ble_eq_true rfl)⟩) ⟨q_blind, q_recv hw (mN_0 hk) (mE_0 hk) rfl, q_pre hw⟩ rfl rfl hl.1 rfl (lv_room (Nat.le_of_ble_eq_true rfl)) dX9_becomes_57 ⟨Nat.zero_le _, Nat.zero_le _⟩) (fun H locs hw => ?_)
      obtain ⟨b4, h⟩ := q_if h
      refine q_last (t0 := 1) C0 hw (mN_11 hk) (mE_11 hk) rfl b4 dX9_becomes_60 (fun σ5 H locs e_σ5 hw => ?_)
      replace h := q_let_at e_σ5 h
      refine lv_iinc (v := (v3 + (1 : Int32))) (lv' := [(3, .int (v3 + (1 : Int32))), (0, .ref (ad k)), (1, .int p1), (2, .int p2)]) hx hb dX9_becomes_61 hl (k := 3) rfl rfl (by decide) rfl (fun ls hl => ?_)
      refine lv_goto (tgt := 35) hx hb dX9_becomes_64 (by decide) ?_
      exact hrec35 (v3 + (1 : Int32)) σ5 _ _ _ hw (lv_sub hl [1, 2, 3, 0] rfl) h
set_option maxHeartbeats 4000000 in
set_option maxRecDepth 100000 in
theorem kX9_becomes {k : Nat} {p1 : Int32} {p2 : Int32} (hk : mB N k) {σ : q_M} {out : Int32 × q_M} (h : fX9_becomes k p1 p2 σ = some out) : q_Mi l (gM D cI cJ cR ad adK adV N) yX9_becomes wsX9_becomes { frames := 3, cells := 0, slots := 0, locals := 76 } [.ref (ad k), .int p1, .int p2] σ out := by
  refine q_Mi_of (cc := cX9_becomes) (maxL := 4) (ret := (some .int)) (by decide) rfl (Nat.le_of_ble_eq_true rfl) ?_
  intro p e s m below meth c ls C0 hr hlk hl hw
  obtain ⟨hx, hb, hml, hown, hts⟩ := id C0
  replace hl : lv_has ls 4 [(0, .ref (ad k)), (1, .int p1), (2, .int p2)] := hl
  unfold fX9_becomes at h
  refine lv_iload_n hx hb dX9_becomes_0 rfl (lv_at hl 1 rfl) ?_
  refine lv_i2l hx hb dX9_becomes_1 rfl ?_
  refine lv_lconst (v := (0 : Int64)) hx hb dX9_becomes_2 (by decide) ?_
  refine lv_ldc2 (v := (2 : Int64)) hx hb hown (hts (.constantLong RX9 152 (2)) (by decide +kernel)) dX9_becomes_3 ?_
  obtain ⟨o1, hco1, h⟩ := q_bind h
  refine q_calli hw (va_runS (As := [.long p1.toInt64, .long (0 : Int64), .long (2 : Int64)]) (rest := []) C0 (kX9_in hco1 _) (va_cwS 3 hts gX9_becomes_X9_in rfl rfl rfl eX9_in ⟨(Nat.le_of_ble_eq_true rfl), (Nat.le_of_ble_eq_true rfl)⟩) ⟨q_blind, q_pre hw⟩ rfl rfl hl.1 rfl (lv_room (Nat.le_of_ble_eq_true rfl)) dX9_becomes_6 ⟨Nat.zero_le _, Nat.zero_le _⟩) (fun H locs hw => ?_)
  refine lv_if_ne (tgt := 19) hx hb dX9_becomes_9 (by decide) (fun c2 => ?_) (fun c2 => ?_)
  · replace h := q_f h c2
    refine lv_aload_n hx hb dX9_becomes_19 rfl (lv_at hl 0 rfl) ?_
    refine lv_aload_n hx hb dX9_becomes_20 rfl (lv_at hl 0 rfl) ?_
    refine lv_aload_n hx hb dX9_becomes_21 rfl (lv_at hl 0 rfl) ?_
    refine gt_X9_12 C0 hw hk iX9_becomes_X9 (by decide +kernel) dX9_becomes_22 ?_
    refine lv_iload_n hx hb dX9_becomes_25 rfl (lv_at hl 1 rfl) ?_
    refine lv_iload_n hx hb dX9_becomes_26 rfl (lv_at hl 2 rfl) ?_
    obtain ⟨o3, hco3, h⟩ := q_bind h
    refine q_calll hw (va_runV (As := [.long (o1.2.2 k 12), .int p1, .int p2]) (rest := [.ref (ad k)]) C0 (kX9_imagesOf hk hco3 _) (cwV 3 hts gX9_becomes_X9_imagesOf rfl rfl rfl eX9_imagesOf ⟨(Nat.le_of_ble_eq_true rfl), (Nat.le_of_ble_eq_true rfl)⟩) ⟨q_blind, q_recv hw (mN_0 hk) (mE_0 hk) rfl, q_pre hw⟩ rfl rfl hl.1 rfl (lv_room (Nat.le_of_ble_eq_true rfl)) dX9_becomes_27 ⟨Nat.zero_le _, Nat.zero_le _⟩) (fun H locs hw => ?_)
    refine pt_X9_12 C0 hw hk iX9_becomes_X9 (by decide +kernel) dX9_becomes_30 (fun σ4 H locs e_σ4 hw => ?_)
    replace h := q_let_at e_σ4 h
    refine lv_iconst (v := (0 : Int32)) hx hb dX9_becomes_33 (by decide) ?_
    refine lv_istore_n (lv' := [(3, .int (0 : Int32)), (0, .ref (ad k)), (1, .int p1), (2, .int p2)]) hx hb dX9_becomes_34 rfl hl (by decide) rfl (fun ls hl => ?_)
    exact tX9_becomes_c35 hk C0 hr hlk q_FU (0 : Int32) σ4 _ _ _ hw (lv_sub hl [1, 2, 3, 0] rfl) h
  · replace h := q_t h c2
    refine lv_aload_n hx hb dX9_becomes_12 rfl (lv_at hl 0 rfl) ?_
    refine lv_bipush (v := (-2 : Int32)) hx hb dX9_becomes_13 (by decide) ?_
    obtain ⟨o5, hco5, h⟩ := q_bind h
    refine q_calli hw (va_runV (As := [.int (-2 : Int32)]) (rest := []) C0 (kX9_refuse hk hco5 _) (cwV 1 hts gX9_becomes_X9_refuse rfl rfl rfl eX9_refuse ⟨(Nat.le_of_ble_eq_true rfl), (Nat.le_of_ble_eq_true rfl)⟩) ⟨q_blind, q_recv hw (mN_0 hk) (mE_0 hk) rfl, q_pre hw⟩ rfl rfl hl.1 rfl (lv_room (Nat.le_of_ble_eq_true rfl)) dX9_becomes_15 ⟨Nat.zero_le _, Nat.zero_le _⟩) (fun H locs hw => ?_)
    exact q_iret h C0 hr hlk hw dX9_becomes_18
-- X9_mirror mirror(I)I
theorem eX9_becomes : yX9_becomes.cls = RX9 ∧ yX9_becomes.cls ≠ "java/lang/invoke/MethodHandle" ∧ yX9_becomes.cls ≠ "java/lang/invoke/VarHandle" ∧ (parseMethodDescriptor yX9_becomes.desc).map (fun d => d.parameters.length) = some 2 := by decide +kernel
set_option maxHeartbeats 4000000 in
set_option maxRecDepth 100000 in
theorem kX9_mirror {k : Nat} {p1 : Int32} (hk : mB N k) {σ : q_M} {out : Int32 × q_M} (h : fX9_mirror k p1 σ = some out) : q_Mi l (gM D cI cJ cR ad adK adV N) yX9_mirror wsX9_mirror { frames := 4, cells := 0, slots := 0, locals := 99 } [.ref (ad k), .int p1] σ out := by
  refine q_Mi_of (cc := cX9_mirror) (maxL := 2) (ret := (some .int)) (by decide) rfl (Nat.le_of_ble_eq_true rfl) ?_
  intro p e s m below meth c ls C0 hr hlk hl hw
  obtain ⟨hx, hb, hml, hown, hts⟩ := id C0
  replace hl : lv_has ls 2 [(0, .ref (ad k)), (1, .int p1)] := hl
  unfold fX9_mirror at h
  refine lv_aload_n hx hb dX9_mirror_0 rfl (lv_at hl 0 rfl) ?_
  refine lv_iload_n hx hb dX9_mirror_1 rfl (lv_at hl 1 rfl) ?_
  refine lv_iconst (v := (0 : Int32)) hx hb dX9_mirror_2 (by decide) ?_
  obtain ⟨o1, hco1, h⟩ := q_bind h
  refine q_calli hw (va_runV (As := [.int p1, .int (0 : Int32)]) (rest := []) C0 (kX9_becomes hk hco1 _) (cwV 2 hts gX9_mirror_X9_becomes rfl rfl rfl eX9_becomes ⟨(Nat.le_of_ble_eq_true rfl), (Nat.le_of_ble_eq_true rfl)⟩) ⟨q_blind, q_recv hw (mN_0 hk) (mE_0 hk) rfl, q_pre hw⟩ rfl rfl hl.1 rfl (lv_room (Nat.le_of_ble_eq_true rfl)) dX9_mirror_3 ⟨Nat.zero_le _, Nat.zero_le _⟩) (fun H locs hw => ?_)
  exact q_iret h C0 hr hlk hw dX9_mirror_6
-- X9_turn turn(I)I
set_option maxHeartbeats 4000000 in
set_option maxRecDepth 100000 in
theorem kX9_turn {k : Nat} {p1 : Int32} (hk : mB N k) {σ : q_M} {out : Int32 × q_M} (h : fX9_turn k p1 σ = some out) : q_Mi l (gM D cI cJ cR ad adK adV N) yX9_turn wsX9_turn { frames := 4, cells := 0, slots := 0, locals := 99 } [.ref (ad k), .int p1] σ out := by
  refine q_Mi_of (cc := cX9_turn) (maxL := 2) (ret := (some .int)) (by decide) rfl (Nat.le_of_ble_eq_true rfl) ?_
  intro p e s m below meth c ls C0 hr hlk hl hw
  obtain ⟨hx, hb, hml, hown, hts⟩ := id C0
  replace hl : lv_has ls 2 [(0, .ref (ad k)), (1, .int p1)] := hl
  unfold fX9_turn at h
  refine lv_aload_n hx hb dX9_turn_0 rfl (lv_at hl 0 rfl) ?_
  refine lv_iload_n hx hb dX9_turn_1 rfl (lv_at hl 1 rfl) ?_
  refine lv_iconst (v := (1 : Int32)) hx hb dX9_turn_2 (by decide) ?_
  obtain ⟨o1, hco1, h⟩ := q_bind h
  refine q_calli hw (va_runV (As := [.int p1, .int (1 : Int32)]) (rest := []) C0 (kX9_becomes hk hco1 _) (cwV 2 hts gX9_turn_X9_becomes rfl rfl rfl eX9_becomes ⟨(Nat.le_of_ble_eq_true rfl), (Nat.le_of_ble_eq_true rfl)⟩) ⟨q_blind, q_recv hw (mN_0 hk) (mE_0 hk) rfl, q_pre hw⟩ rfl rfl hl.1 rfl (lv_room (Nat.le_of_ble_eq_true rfl)) dX9_turn_3 ⟨Nat.zero_le _, Nat.zero_le _⟩) (fun H locs hw => ?_)
  exact q_iret h C0 hr hlk hw dX9_turn_6
-- X9_thin thin(II)I
theorem iX9_thin_X9 : ∀ w ∈ wsX90, w ∈ wsX9_thin := by decide +kernel
set_option maxHeartbeats 4000000 in
set_option maxRecDepth 100000 in
theorem tX9_thin_c32 {k : Nat} {p1 : Int32} {p2 : Int32} (hk : mB N k) (C0 : CallFix p m c cX9_thin 6 s args wsX9_thin RX9) (hr : meth.sig.returnType = (some .int)) (hlk : meth.locks = false) {out : Int32 × q_M}  : ∀ n : Nat, ∀ (v3 : Int32) (v4 : Int32) (σ : q_M) (H : Heap) (locs : List Loc) (ls : Array Slot), q_H (gM D cI cJ cR ad adK adV N) (q_A (gM D cI cJ cR ad adK adV N) s.heap.size) s σ H locs → lv_has ls 6 [(0, .ref (ad k)), (1, .int p1), (2, .int p2), (3, .int v3), (4, .int v4)] → fX9_thin_c32 k p1 p2 n v3 v4 σ = some out → W p l e { frames := 3, cells := 0, slots := 0, locals := 72 } s m args below meth c H locs 0 0 (MQ below (q_Ri (gM D cI cJ cR ad adK adV N) (q_A (gM D cI cJ cR ad adK adV N) s.heap.size) out) args s 0 0 (q_A (gM D cI cJ cR ad adK adV N) s.heap.size)) (F0 m 32 ls []) := by
  obtain ⟨hx, hb, hml, hown, hts⟩ := id C0
  intro n
  induction n with
  | zero =>
    intro v3 v4 σ H locs ls  hw hl h
    cases (show (none : Option (Int32 × q_M)) = some out from h)
  | succ n hrec32 =>
    intro v3 v4 σ H locs ls  hw hl h
    replace h : fX9_thin_c32b k p1 p2 (fX9_thin_c32 k p1 p2 n) v3 v4 σ = some out := h
    unfold fX9_thin_c32b at h
    refine lv_iload hx hb dX9_thin_32 (lv_at hl 4 rfl) ?_
    refine lv_aload_n hx hb dX9_thin_34 rfl (lv_at hl 0 rfl) ?_
    obtain ⟨o1, hco1, h⟩ := q_bind h
    refine q_calli hw (va_runV (As := []) (rest := [.int v4]) C0 (kX9_many hk hco1 _) (cwV 0 hts gX9_thin_X9_many rfl rfl rfl eX9_many ⟨(Nat.le_of_ble_eq_true rfl), (Nat.le_of_ble_eq_true rfl)⟩) ⟨q_blind, q_recv hw (mN_0 hk) (mE_0 hk) rfl, q_pre hw⟩ rfl rfl hl.1 rfl (lv_room (Nat.le_of_ble_eq_true rfl)) dX9_thin_35 ⟨Nat.zero_le _, Nat.zero_le _⟩) (fun H locs hw => ?_)
    refine lv_icmp_ge (tgt := 88) hx hb dX9_thin_38 (by decide) (fun c2 => ?_) (fun c2 => ?_)
    · replace h := q_t h c2
      refine lv_iload_n hx hb dX9_thin_88 rfl (lv_at hl 3 rfl) ?_
      exact q_iret h C0 hr hlk hw dX9_thin_89
    · replace h := q_f h c2
      refine lv_aload_n hx hb dX9_thin_41 rfl (lv_at hl 0 rfl) ?_
      refine lv_iload hx hb dX9_thin_42 (lv_at hl 4 rfl) ?_
      refine lv_iload_n hx hb dX9_thin_44 rfl (lv_at hl 2 rfl) ?_
      obtain ⟨o3, hco3, h⟩ := q_bind h
      refine q_calll hw (va_runV (As := [.int v4, .int p2]) (rest := []) C0 (kX9_rowOf hk hco3 _) (cwV 2 hts gX9_thin_X9_rowOf rfl rfl rfl eX9_rowOf ⟨(Nat.le_of_ble_eq_true rfl), (Nat.le_of_ble_eq_true rfl)⟩) ⟨q_blind, q_recv hw (mN_0 hk) (mE_0 hk) rfl, q_pre hw⟩ rfl rfl hl.1 rfl (lv_room (Nat.le_of_ble_eq_true rfl)) dX9_thin_45 ⟨Nat.zero_le _, Nat.zero_le _⟩) (fun H locs hw => ?_)
      refine lv_aload_n hx hb dX9_thin_48 rfl (lv_at hl 0 rfl) ?_
      refine gt_X9_14 C0 hw hk iX9_thin_X9 (by decide +kernel) dX9_thin_49 ?_
      refine lv_iload_n hx hb dX9_thin_52 rfl (lv_at hl 1 rfl) ?_
      obtain ⟨b4, h⟩ := q_if h
      refine q_lald (t0 := 1) C0 hw (mN_11 hk) (mE_11 hk) rfl b4 dX9_thin_53 ?_
      refine lv_land hx hb dX9_thin_54 ?_
      obtain ⟨o5, hco5, h⟩ := q_bind h
      refine q_calli hw (va_runS (As := [.long (o3.1 &&& (o3.2.2 (k + 11) p1.toNatClampNeg))]) (rest := []) C0 (kX9_bits hco5 _) (va_cwS 1 hts gX9_thin_X9_bits rfl rfl rfl eX9_bits ⟨(Nat.le_of_ble_eq_true rfl), (Nat.le_of_ble_eq_true rfl)⟩) ⟨q_blind, q_pre hw⟩ rfl rfl hl.1 rfl (lv_room (Nat.le_of_ble_eq_true rfl)) dX9_thin_55 ⟨Nat.zero_le _, Nat.zero_le _⟩) (fun H locs hw => ?_)
      refine lv_istore (lv' := [(5, .int o5.1), (0, .ref (ad k)), (1, .int p1), (2, .int p2), (3, .int v3), (4, .int v4)]) hx hb dX9_thin_58 hl (by decide) rfl (fun ls hl => ?_)
      refine lv_iload hx hb dX9_thin_60 (lv_at hl 0 rfl) ?_
      refine lv_if_le (tgt := 80) hx hb dX9_thin_62 (by decide) (fun c6 => ?_) (fun c6 => ?_)
      · replace h := q_t h c6
        refine lv_iload_n hx hb dX9_thin_80 rfl (lv_at hl 4 rfl) ?_
        refine lv_istore_n (lv' := [(3, .int v3), (5, .int o5.1), (0, .ref (ad k)), (1, .int p1), (2, .int p2), (4, .int v4)]) hx hb dX9_thin_81 rfl hl (by decide) rfl (fun ls hl => ?_)
        refine lv_iinc (v := (v4 + (1 : Int32))) (lv' := [(4, .int (v4 + (1 : Int32))), (3, .int v3), (5, .int o5.1), (0, .ref (ad k)), (1, .int p1), (2, .int p2)]) hx hb dX9_thin_82 hl (k := 5) rfl rfl (by decide) rfl (fun ls hl => ?_)
        refine lv_goto (tgt := 32) hx hb dX9_thin_85 (by decide) ?_
        exact hrec32 v3 (v4 + (1 : Int32)) o5.2 _ _ _ hw (lv_sub hl [3, 4, 5, 1, 0] rfl) h
      · replace h := q_f h c6
        refine lv_iload_n hx hb dX9_thin_65 rfl (lv_at hl 4 rfl) ?_
        refine lv_if_eq (tgt := 75) hx hb dX9_thin_66 (by decide) (fun c7 => ?_) (fun c7 => ?_)
        · replace h := q_t h c7
          refine lv_iload hx hb dX9_thin_75 (lv_at hl 0 rfl) ?_
          refine lv_goto (tgt := 81) hx hb dX9_thin_77 (by decide) ?_
          refine lv_istore_n (lv' := [(3, .int o5.1), (5, .int o5.1), (0, .ref (ad k)), (1, .int p1), (2, .int p2), (4, .int v4)]) hx hb dX9_thin_81 rfl hl (by decide) rfl (fun ls hl => ?_)
          refine lv_iinc (v := (v4 + (1 : Int32))) (lv' := [(4, .int (v4 + (1 : Int32))), (3, .int o5.1), (5, .int o5.1), (0, .ref (ad k)), (1, .int p1), (2, .int p2)]) hx hb dX9_thin_82 hl (k := 5) rfl rfl (by decide) rfl (fun ls hl => ?_)
          refine lv_goto (tgt := 32) hx hb dX9_thin_85 (by decide) ?_
          exact hrec32 o5.1 (v4 + (1 : Int32)) o5.2 _ _ _ hw (lv_sub hl [3, 4, 5, 1, 0] rfl) h
        · replace h := q_f h c7
          refine lv_iload hx hb dX9_thin_69 (lv_at hl 0 rfl) ?_
          refine lv_iload_n hx hb dX9_thin_71 rfl (lv_at hl 4 rfl) ?_
          refine lv_icmp_ge (tgt := 80) hx hb dX9_thin_72 (by decide) (fun c8 => ?_) (fun c8 => ?_)
          · replace h := q_t h c8
            refine lv_iload_n hx hb dX9_thin_80 rfl (lv_at hl 4 rfl) ?_
            refine lv_istore_n (lv' := [(3, .int v3), (5, .int o5.1), (0, .ref (ad k)), (1, .int p1), (2, .int p2), (4, .int v4)]) hx hb dX9_thin_81 rfl hl (by decide) rfl (fun ls hl => ?_)
            refine lv_iinc (v := (v4 + (1 : Int32))) (lv' := [(4, .int (v4 + (1 : Int32))), (3, .int v3), (5, .int o5.1), (0, .ref (ad k)), (1, .int p1), (2, .int p2)]) hx hb dX9_thin_82 hl (k := 5) rfl rfl (by decide) rfl (fun ls hl => ?_)
            refine lv_goto (tgt := 32) hx hb dX9_thin_85 (by decide) ?_
            exact hrec32 v3 (v4 + (1 : Int32)) o5.2 _ _ _ hw (lv_sub hl [3, 4, 5, 1, 0] rfl) h
          · replace h := q_f h c8
            refine lv_iload hx hb dX9_thin_75 (lv_at hl 0 rfl) ?_
            refine lv_goto (tgt := 81) hx hb dX9_thin_77 (by decide) ?_
            refine lv_istore_n (lv' := [(3, .int o5.1), (5, .int o5.1), (0, .ref (ad k)), (1, .int p1), (2, .int p2), (4, .int v4)]) hx hb dX9_thin_81 rfl hl (by decide) rfl (fun ls hl => ?_)
            refine lv_iinc (v := (v4 + (1 : Int32))) (lv' := [(4, .int (v4 + (1 : Int32))), (3, .int o5.1), (5, .int o5.1), (0, .ref (ad k)), (1, .int p1), (2, .int p2)]) hx hb dX9_thin_82 hl (k := 5) rfl rfl (by decide) rfl (fun ls hl => ?_)
            refine lv_goto (tgt := 32) hx hb dX9_thin_85 (by decide) ?_
            exact hrec32 o5.1 (v4 + (1 : Int32)) o5.2 _ _ _ hw (lv_sub hl [3, 4, 5, 1, 0] rfl) h
set_option maxHeartbeats 4000000 in
set_option maxRecDepth 100000 in
theorem kX9_thin {k : Nat} {p1 : Int32} {p2 : Int32} (hk : mB N k) {σ : q_M} {out : Int32 × q_M} (h : fX9_thin k p1 p2 σ = some out) : q_Mi l (gM D cI cJ cR ad adK adV N) yX9_thin wsX9_thin { frames := 3, cells := 0, slots := 0, locals := 72 } [.ref (ad k), .int p1, .int p2] σ out := by
  refine q_Mi_of (cc := cX9_thin) (maxL := 6) (ret := (some .int)) (by decide) rfl (Nat.le_of_ble_eq_true rfl) ?_
  intro p e s m below meth c ls C0 hr hlk hl hw
  obtain ⟨hx, hb, hml, hown, hts⟩ := id C0
  replace hl : lv_has ls 6 [(0, .ref (ad k)), (1, .int p1), (2, .int p2)] := hl
  unfold fX9_thin at h
  refine lv_aload_n hx hb dX9_thin_0 rfl (lv_at hl 0 rfl) ?_
  refine lv_iload_n hx hb dX9_thin_1 rfl (lv_at hl 1 rfl) ?_
  obtain ⟨o1, hco1, h⟩ := q_bind h
  refine q_calli hw (va_runV (As := [.int p1]) (rest := []) C0 (kX9_isPiece hk hco1 _) (cwV 1 hts gX9_thin_X9_isPiece rfl rfl rfl eX9_isPiece ⟨(Nat.le_of_ble_eq_true rfl), (Nat.le_of_ble_eq_true rfl)⟩) ⟨q_blind, q_recv hw (mN_0 hk) (mE_0 hk) rfl, q_pre hw⟩ rfl rfl hl.1 rfl (lv_room (Nat.le_of_ble_eq_true rfl)) dX9_thin_2 ⟨Nat.zero_le _, Nat.zero_le _⟩) (fun H locs hw => ?_)
  refine lv_if_eq (tgt := 20) hx hb dX9_thin_5 (by decide) (fun c2 => ?_) (fun c2 => ?_)
  · replace h := q_t h c2
    refine lv_aload_n hx hb dX9_thin_20 rfl (lv_at hl 0 rfl) ?_
    refine lv_bipush (v := (-2 : Int32)) hx hb dX9_thin_21 (by decide) ?_
    obtain ⟨o3, hco3, h⟩ := q_bind h
    refine q_calli hw (va_runV (As := [.int (-2 : Int32)]) (rest := []) C0 (kX9_refuse hk hco3 _) (cwV 1 hts gX9_thin_X9_refuse rfl rfl rfl eX9_refuse ⟨(Nat.le_of_ble_eq_true rfl), (Nat.le_of_ble_eq_true rfl)⟩) ⟨q_blind, q_recv hw (mN_0 hk) (mE_0 hk) rfl, q_pre hw⟩ rfl rfl hl.1 rfl (lv_room (Nat.le_of_ble_eq_true rfl)) dX9_thin_23 ⟨Nat.zero_le _, Nat.zero_le _⟩) (fun H locs hw => ?_)
    exact q_iret h C0 hr hlk hw dX9_thin_26
  · replace h := q_f h c2
    refine lv_iload_n hx hb dX9_thin_8 rfl (lv_at hl 2 rfl) ?_
    refine lv_i2l hx hb dX9_thin_9 rfl ?_
    refine lv_lconst (v := (0 : Int64)) hx hb dX9_thin_10 (by decide) ?_
    refine lv_ldc2 (v := (2 : Int64)) hx hb hown (hts (.constantLong RX9 152 (2)) (by decide +kernel)) dX9_thin_11 ?_
    obtain ⟨o4, hco4, h⟩ := q_bind h
    refine q_calli hw (va_runS (As := [.long p2.toInt64, .long (0 : Int64), .long (2 : Int64)]) (rest := []) C0 (kX9_in hco4 _) (va_cwS 3 hts gX9_thin_X9_in rfl rfl rfl eX9_in ⟨(Nat.le_of_ble_eq_true rfl), (Nat.le_of_ble_eq_true rfl)⟩) ⟨q_blind, q_pre hw⟩ rfl rfl hl.1 rfl (lv_room (Nat.le_of_ble_eq_true rfl)) dX9_thin_14 ⟨Nat.zero_le _, Nat.zero_le _⟩) (fun H locs hw => ?_)
    refine lv_if_ne (tgt := 27) hx hb dX9_thin_17 (by decide) (fun c5 => ?_) (fun c5 => ?_)
    · replace h := q_f h c5
      refine lv_iconst (v := (0 : Int32)) hx hb dX9_thin_27 (by decide) ?_
      refine lv_istore_n (lv' := [(3, .int (0 : Int32)), (0, .ref (ad k)), (1, .int p1), (2, .int p2)]) hx hb dX9_thin_28 rfl hl (by decide) rfl (fun ls hl => ?_)
      refine lv_iconst (v := (0 : Int32)) hx hb dX9_thin_29 (by decide) ?_
      refine lv_istore (lv' := [(4, .int (0 : Int32)), (3, .int (0 : Int32)), (0, .ref (ad k)), (1, .int p1), (2, .int p2)]) hx hb dX9_thin_30 hl (by decide) rfl (fun ls hl => ?_)
      exact tX9_thin_c32 hk C0 hr hlk q_FU (0 : Int32) (0 : Int32) o4.2 _ _ _ hw (lv_sub hl [2, 3, 4, 1, 0] rfl) h
    · replace h := q_t h c5
      refine lv_aload_n hx hb dX9_thin_20 rfl (lv_at hl 0 rfl) ?_
      refine lv_bipush (v := (-2 : Int32)) hx hb dX9_thin_21 (by decide) ?_
      obtain ⟨o6, hco6, h⟩ := q_bind h
      refine q_calli hw (va_runV (As := [.int (-2 : Int32)]) (rest := []) C0 (kX9_refuse hk hco6 _) (cwV 1 hts gX9_thin_X9_refuse rfl rfl rfl eX9_refuse ⟨(Nat.le_of_ble_eq_true rfl), (Nat.le_of_ble_eq_true rfl)⟩) ⟨q_blind, q_recv hw (mN_0 hk) (mE_0 hk) rfl, q_pre hw⟩ rfl rfl hl.1 rfl (lv_room (Nat.le_of_ble_eq_true rfl)) dX9_thin_23 ⟨Nat.zero_le _, Nat.zero_le _⟩) (fun H locs hw => ?_)
      exact q_iret h C0 hr hlk hw dX9_thin_26
-- X9_spareOf spareOf(I)J
theorem iX9_spareOf_X9 : ∀ w ∈ wsX90, w ∈ wsX9_spareOf := by decide +kernel
set_option maxHeartbeats 4000000 in
set_option maxRecDepth 100000 in
theorem tX9_spareOf_c17 {k : Nat} {p1 : Int32} {rec5 : Int64 → Int32 → q_M → Option (Int64 × q_M)} (hk : mB N k) (C0 : CallFix p m c cX9_spareOf 7 s args wsX9_spareOf RX9) (hr : meth.sig.returnType = (some .long)) (hlk : meth.locks = false) {out : Int64 × q_M} (hrec5 : ∀ (v2 : Int64) (v4 : Int32) (σ : q_M) (H : Heap) (locs : List Loc) (ls : Array Slot), q_H (gM D cI cJ cR ad adK adV N) (q_A (gM D cI cJ cR ad adK adV N) s.heap.size) s σ H locs → lv_has ls 7 [(0, .ref (ad k)), (1, .int p1), (2, .long v2), (4, .int v4)] → rec5 v2 v4 σ = some out → W p l e { frames := 3, cells := 0, slots := 0, locals := 60 } s m args below meth c H locs 0 0 (MQ below (q_Rl (gM D cI cJ cR ad adK adV N) (q_A (gM D cI cJ cR ad adK adV N) s.heap.size) out) args s 0 0 (q_A (gM D cI cJ cR ad adK adV N) s.heap.size)) (F0 m 5 ls [])) : ∀ n : Nat, ∀ (v2 : Int64) (v4 : Int32) (v5 : Int32) (σ : q_M) (H : Heap) (locs : List Loc) (ls : Array Slot), q_H (gM D cI cJ cR ad adK adV N) (q_A (gM D cI cJ cR ad adK adV N) s.heap.size) s σ H locs → lv_has ls 7 [(0, .ref (ad k)), (1, .int p1), (2, .long v2), (4, .int v4), (5, .int v5)] → fX9_spareOf_c17 k p1 rec5 n v2 v4 v5 σ = some out → W p l e { frames := 3, cells := 0, slots := 0, locals := 60 } s m args below meth c H locs 0 0 (MQ below (q_Rl (gM D cI cJ cR ad adK adV N) (q_A (gM D cI cJ cR ad adK adV N) s.heap.size) out) args s 0 0 (q_A (gM D cI cJ cR ad adK adV N) s.heap.size)) (F0 m 17 ls []) := by
  obtain ⟨hx, hb, hml, hown, hts⟩ := id C0
  intro n
  induction n with
  | zero =>
    intro v2 v4 v5 σ H locs ls  hw hl h
    cases (show (none : Option (Int64 × q_M)) = some out from h)
  | succ n hrec17 =>
    intro v2 v4 v5 σ H locs ls  hw hl h
    replace h : fX9_spareOf_c17b k p1 rec5 (fX9_spareOf_c17 k p1 rec5 n) v2 v4 v5 σ = some out := h
    unfold fX9_spareOf_c17b at h
    refine lv_aload_n hx hb dX9_spareOf_17 rfl (lv_at hl 0 rfl) ?_
    refine gt_X9_14 C0 hw hk iX9_spareOf_X9 (by decide +kernel) dX9_spareOf_18 ?_
    refine lv_iload_n hx hb dX9_spareOf_21 rfl (lv_at hl 1 rfl) ?_
    obtain ⟨b1, h⟩ := q_if h
    refine q_lald (t0 := 1) C0 hw (mN_11 hk) (mE_11 hk) rfl b1 dX9_spareOf_22 ?_
    refine lv_iload hx hb dX9_spareOf_23 (lv_at hl 3 rfl) ?_
    obtain ⟨o2, hco2, h⟩ := q_bind h
    refine q_calli hw (va_runS (As := [.long (σ.2 (k + 11) p1.toNatClampNeg), .int v4]) (rest := []) C0 (kX9_has hco2 _) (va_cwS 2 hts gX9_spareOf_X9_has rfl rfl rfl eX9_has ⟨(Nat.le_of_ble_eq_true rfl), (Nat.le_of_ble_eq_true rfl)⟩) ⟨q_blind, q_pre hw⟩ rfl rfl hl.1 rfl (lv_room (Nat.le_of_ble_eq_true rfl)) dX9_spareOf_25 ⟨Nat.zero_le _, Nat.zero_le _⟩) (fun H locs hw => ?_)
    refine lv_if_eq (tgt := 71) hx hb dX9_spareOf_28 (by decide) (fun c3 => ?_) (fun c3 => ?_)
    · replace h := q_t h c3
      refine lv_iinc (v := (v4 + (1 : Int32))) (lv' := [(4, .int (v4 + (1 : Int32))), (0, .ref (ad k)), (1, .int p1), (2, .long v2), (5, .int v5)]) hx hb dX9_spareOf_71 hl (k := 3) rfl rfl (by decide) rfl (fun ls hl => ?_)
      refine lv_goto (tgt := 5) hx hb dX9_spareOf_74 (by decide) ?_
      exact hrec5 v2 (v4 + (1 : Int32)) o2.2 _ _ _ hw (lv_sub hl [1, 2, 3, 0] rfl) h
    · replace h := q_f h c3
      refine lv_iload hx hb dX9_spareOf_31 (lv_at hl 4 rfl) ?_
      refine lv_bipush (v := (6 : Int32)) hx hb dX9_spareOf_33 (by decide) ?_
      refine lv_icmp_ge (tgt := 71) hx hb dX9_spareOf_35 (by decide) (fun c4 => ?_) (fun c4 => ?_)
      · replace h := q_t h c4
        refine lv_iinc (v := (v4 + (1 : Int32))) (lv' := [(4, .int (v4 + (1 : Int32))), (0, .ref (ad k)), (1, .int p1), (2, .long v2), (5, .int v5)]) hx hb dX9_spareOf_71 hl (k := 3) rfl rfl (by decide) rfl (fun ls hl => ?_)
        refine lv_goto (tgt := 5) hx hb dX9_spareOf_74 (by decide) ?_
        exact hrec5 v2 (v4 + (1 : Int32)) o2.2 _ _ _ hw (lv_sub hl [1, 2, 3, 0] rfl) h
      · replace h := q_f h c4
        refine lv_aload_n hx hb dX9_spareOf_38 rfl (lv_at hl 0 rfl) ?_
        refine lv_iload hx hb dX9_spareOf_39 (lv_at hl 3 rfl) ?_
        refine lv_iload hx hb dX9_spareOf_41 (lv_at hl 4 rfl) ?_
        obtain ⟨o5, hco5, h⟩ := q_bind h
        refine q_calli hw (va_runV (As := [.int v4, .int v5]) (rest := []) C0 (kX9_from hk hco5 _) (cwV 2 hts gX9_spareOf_X9_from rfl rfl rfl eX9_from ⟨(Nat.le_of_ble_eq_true rfl), (Nat.le_of_ble_eq_true rfl)⟩) ⟨q_blind, q_recv hw (mN_0 hk) (mE_0 hk) rfl, q_pre hw⟩ rfl rfl hl.1 rfl (lv_room (Nat.le_of_ble_eq_true rfl)) dX9_spareOf_43 ⟨Nat.zero_le _, Nat.zero_le _⟩) (fun H locs hw => ?_)
        refine lv_istore (lv' := [(6, .int o5.1), (0, .ref (ad k)), (1, .int p1), (2, .long v2), (4, .int v4), (5, .int v5)]) hx hb dX9_spareOf_46 hl (by decide) rfl (fun ls hl => ?_)
        refine lv_lload_n hx hb dX9_spareOf_48 rfl (lv_at hl 3 rfl) ?_
        refine lv_iload hx hb dX9_spareOf_49 (lv_at hl 0 rfl) ?_
        refine lv_iconst (v := (-1 : Int32)) hx hb dX9_spareOf_51 (by decide) ?_
        refine lv_icmp_eq (tgt := 62) hx hb dX9_spareOf_52 (by decide) (fun c6 => ?_) (fun c6 => ?_)
        · replace h := q_t h c6
          refine lv_lconst (v := (0 : Int64)) hx hb dX9_spareOf_62 (by decide) ?_
          refine lv_lor hx hb dX9_spareOf_63 ?_
          refine lv_lstore_n (lv' := [(2, .long (v2 ||| (0 : Int64))), (6, .int o5.1), (0, .ref (ad k)), (1, .int p1), (4, .int v4), (5, .int v5)]) hx hb dX9_spareOf_64 rfl hl (by decide) rfl (fun ls hl => ?_)
          refine lv_iinc (v := (v5 + (1 : Int32))) (lv' := [(5, .int (v5 + (1 : Int32))), (2, .long (v2 ||| (0 : Int64))), (6, .int o5.1), (0, .ref (ad k)), (1, .int p1), (4, .int v4)]) hx hb dX9_spareOf_65 hl (k := 5) rfl rfl (by decide) rfl (fun ls hl => ?_)
          refine lv_goto (tgt := 17) hx hb dX9_spareOf_68 (by decide) ?_
          exact hrec17 (v2 ||| (0 : Int64)) v4 (v5 + (1 : Int32)) o5.2 _ _ _ hw (lv_sub hl [3, 4, 1, 5, 0] rfl) h
        · replace h := q_f h c6
          refine lv_lconst (v := (1 : Int64)) hx hb dX9_spareOf_55 (by decide) ?_
          refine lv_iload hx hb dX9_spareOf_56 (lv_at hl 0 rfl) ?_
          refine lv_lshl (v := (q_shl (1 : Int64) o5.1)) hx hb dX9_spareOf_58 rfl ?_
          refine lv_goto (tgt := 63) hx hb dX9_spareOf_59 (by decide) ?_
          refine lv_lor hx hb dX9_spareOf_63 ?_
          refine lv_topl (fun x7 e_x7 => ?_)
          replace h := q_let_at e_x7 h
          refine lv_lstore_n (lv' := [(2, .long x7), (6, .int o5.1), (0, .ref (ad k)), (1, .int p1), (4, .int v4), (5, .int v5)]) hx hb dX9_spareOf_64 rfl hl (by decide) rfl (fun ls hl => ?_)
          refine lv_iinc (v := (v5 + (1 : Int32))) (lv' := [(5, .int (v5 + (1 : Int32))), (2, .long x7), (6, .int o5.1), (0, .ref (ad k)), (1, .int p1), (4, .int v4)]) hx hb dX9_spareOf_65 hl (k := 5) rfl rfl (by decide) rfl (fun ls hl => ?_)
          refine lv_goto (tgt := 17) hx hb dX9_spareOf_68 (by decide) ?_
          exact hrec17 x7 v4 (v5 + (1 : Int32)) o5.2 _ _ _ hw (lv_sub hl [3, 4, 1, 5, 0] rfl) h
set_option maxHeartbeats 4000000 in
set_option maxRecDepth 100000 in
theorem tX9_spareOf_c5 {k : Nat} {p1 : Int32} (hk : mB N k) (C0 : CallFix p m c cX9_spareOf 7 s args wsX9_spareOf RX9) (hr : meth.sig.returnType = (some .long)) (hlk : meth.locks = false) {out : Int64 × q_M}  : ∀ n : Nat, ∀ (v2 : Int64) (v4 : Int32) (σ : q_M) (H : Heap) (locs : List Loc) (ls : Array Slot), q_H (gM D cI cJ cR ad adK adV N) (q_A (gM D cI cJ cR ad adK adV N) s.heap.size) s σ H locs → lv_has ls 7 [(0, .ref (ad k)), (1, .int p1), (2, .long v2), (4, .int v4)] → fX9_spareOf_c5 k p1 n v2 v4 σ = some out → W p l e { frames := 3, cells := 0, slots := 0, locals := 60 } s m args below meth c H locs 0 0 (MQ below (q_Rl (gM D cI cJ cR ad adK adV N) (q_A (gM D cI cJ cR ad adK adV N) s.heap.size) out) args s 0 0 (q_A (gM D cI cJ cR ad adK adV N) s.heap.size)) (F0 m 5 ls []) := by
  obtain ⟨hx, hb, hml, hown, hts⟩ := id C0
  intro n
  induction n with
  | zero =>
    intro v2 v4 σ H locs ls  hw hl h
    cases (show (none : Option (Int64 × q_M)) = some out from h)
  | succ n hrec5 =>
    intro v2 v4 σ H locs ls  hw hl h
    replace h : fX9_spareOf_c5b k p1 (fX9_spareOf_c5 k p1 n) v2 v4 σ = some out := h
    unfold fX9_spareOf_c5b at h
    refine lv_iload hx hb dX9_spareOf_5 (lv_at hl 3 rfl) ?_
    refine lv_aload_n hx hb dX9_spareOf_7 rfl (lv_at hl 0 rfl) ?_
    obtain ⟨o1, hco1, h⟩ := q_bind h
    refine q_calli hw (va_runV (As := []) (rest := [.int v4]) C0 (kX9_many hk hco1 _) (cwV 0 hts gX9_spareOf_X9_many rfl rfl rfl eX9_many ⟨(Nat.le_of_ble_eq_true rfl), (Nat.le_of_ble_eq_true rfl)⟩) ⟨q_blind, q_recv hw (mN_0 hk) (mE_0 hk) rfl, q_pre hw⟩ rfl rfl hl.1 rfl (lv_room (Nat.le_of_ble_eq_true rfl)) dX9_spareOf_8 ⟨Nat.zero_le _, Nat.zero_le _⟩) (fun H locs hw => ?_)
    refine lv_icmp_ge (tgt := 77) hx hb dX9_spareOf_11 (by decide) (fun c2 => ?_) (fun c2 => ?_)
    · replace h := q_t h c2
      refine lv_lload_n hx hb dX9_spareOf_77 rfl (lv_at hl 2 rfl) ?_
      refine lv_aload_n hx hb dX9_spareOf_78 rfl (lv_at hl 0 rfl) ?_
      obtain ⟨o3, hco3, h⟩ := q_bind h
      refine q_calll hw (va_runV (As := []) (rest := [.long v2]) C0 (kX9_empty hk hco3 _) (cwV 0 hts gX9_spareOf_X9_empty rfl rfl rfl eX9_empty ⟨(Nat.le_of_ble_eq_true rfl), (Nat.le_of_ble_eq_true rfl)⟩) ⟨q_blind, q_recv hw (mN_0 hk) (mE_0 hk) rfl, q_pre hw⟩ rfl rfl hl.1 rfl (lv_room (Nat.le_of_ble_eq_true rfl)) dX9_spareOf_79 ⟨Nat.zero_le _, Nat.zero_le _⟩) (fun H locs hw => ?_)
      refine lv_land hx hb dX9_spareOf_82 ?_
      refine lv_aload_n hx hb dX9_spareOf_83 rfl (lv_at hl 0 rfl) ?_
      obtain ⟨o4, hco4, h⟩ := q_bind h
      refine q_calll hw (va_runV (As := []) (rest := [.long (v2 &&& o3.1)]) C0 (kX9_inPieces hk hco4 _) (cwV 0 hts gX9_spareOf_X9_inPieces rfl rfl rfl eX9_inPieces ⟨(Nat.le_of_ble_eq_true rfl), (Nat.le_of_ble_eq_true rfl)⟩) ⟨q_blind, q_recv hw (mN_0 hk) (mE_0 hk) rfl, q_pre hw⟩ rfl rfl hl.1 rfl (lv_room (Nat.le_of_ble_eq_true rfl)) dX9_spareOf_84 ⟨Nat.zero_le _, Nat.zero_le _⟩) (fun H locs hw => ?_)
      refine lv_ldc2 (v := (-1 : Int64)) hx hb hown (hts (.constantLong RX9 100 (-1)) (by decide +kernel)) dX9_spareOf_87 ?_
      refine lv_lxor hx hb dX9_spareOf_90 ?_
      refine lv_land hx hb dX9_spareOf_91 ?_
      exact q_lret h C0 hr hlk hw dX9_spareOf_92
    · replace h := q_f h c2
      refine lv_iconst (v := (0 : Int32)) hx hb dX9_spareOf_14 (by decide) ?_
      refine lv_istore (lv' := [(5, .int (0 : Int32)), (0, .ref (ad k)), (1, .int p1), (2, .long v2), (4, .int v4)]) hx hb dX9_spareOf_15 hl (by decide) rfl (fun ls hl => ?_)
      exact tX9_spareOf_c17 hk C0 hr hlk hrec5 q_FU v2 v4 (0 : Int32) o1.2 _ _ _ hw (lv_sub hl [1, 2, 3, 4, 0] rfl) h
set_option maxHeartbeats 4000000 in
set_option maxRecDepth 100000 in
theorem kX9_spareOf {k : Nat} {p1 : Int32} (hk : mB N k) {σ : q_M} {out : Int64 × q_M} (h : fX9_spareOf k p1 σ = some out) : q_Ml l (gM D cI cJ cR ad adK adV N) yX9_spareOf wsX9_spareOf { frames := 3, cells := 0, slots := 0, locals := 60 } [.ref (ad k), .int p1] σ out := by
  refine q_Ml_of (cc := cX9_spareOf) (maxL := 7) (ret := (some .long)) (by decide) rfl (Nat.le_of_ble_eq_true rfl) ?_
  intro p e s m below meth c ls C0 hr hlk hl hw
  obtain ⟨hx, hb, hml, hown, hts⟩ := id C0
  replace hl : lv_has ls 7 [(0, .ref (ad k)), (1, .int p1)] := hl
  unfold fX9_spareOf at h
  refine lv_lconst (v := (0 : Int64)) hx hb dX9_spareOf_0 (by decide) ?_
  refine lv_lstore_n (lv' := [(2, .long (0 : Int64)), (0, .ref (ad k)), (1, .int p1)]) hx hb dX9_spareOf_1 rfl hl (by decide) rfl (fun ls hl => ?_)
  refine lv_iconst (v := (0 : Int32)) hx hb dX9_spareOf_2 (by decide) ?_
  refine lv_istore (lv' := [(4, .int (0 : Int32)), (2, .long (0 : Int64)), (0, .ref (ad k)), (1, .int p1)]) hx hb dX9_spareOf_3 hl (by decide) rfl (fun ls hl => ?_)
  exact tX9_spareOf_c5 hk C0 hr hlk q_FU (0 : Int64) (0 : Int32) σ _ _ _ hw (lv_sub hl [2, 3, 1, 0] rfl) h
-- X9_spare spare(I)J
theorem eX9_spareOf : yX9_spareOf.cls = RX9 ∧ yX9_spareOf.cls ≠ "java/lang/invoke/MethodHandle" ∧ yX9_spareOf.cls ≠ "java/lang/invoke/VarHandle" ∧ (parseMethodDescriptor yX9_spareOf.desc).map (fun d => d.parameters.length) = some 1 := by decide +kernel
set_option maxHeartbeats 4000000 in
set_option maxRecDepth 100000 in
theorem kX9_spare {k : Nat} {p1 : Int32} (hk : mB N k) {σ : q_M} {out : Int64 × q_M} (h : fX9_spare k p1 σ = some out) : q_Ml l (gM D cI cJ cR ad adK adV N) yX9_spare wsX9_spare { frames := 4, cells := 0, slots := 0, locals := 86 } [.ref (ad k), .int p1] σ out := by
  refine q_Ml_of (cc := cX9_spare) (maxL := 2) (ret := (some .long)) (by decide) rfl (Nat.le_of_ble_eq_true rfl) ?_
  intro p e s m below meth c ls C0 hr hlk hl hw
  obtain ⟨hx, hb, hml, hown, hts⟩ := id C0
  replace hl : lv_has ls 2 [(0, .ref (ad k)), (1, .int p1)] := hl
  unfold fX9_spare at h
  refine lv_aload_n hx hb dX9_spare_0 rfl (lv_at hl 0 rfl) ?_
  refine lv_iload_n hx hb dX9_spare_1 rfl (lv_at hl 1 rfl) ?_
  obtain ⟨o1, hco1, h⟩ := q_bind h
  refine q_calli hw (va_runV (As := [.int p1]) (rest := []) C0 (kX9_isPiece hk hco1 _) (cwV 1 hts gX9_spare_X9_isPiece rfl rfl rfl eX9_isPiece ⟨(Nat.le_of_ble_eq_true rfl), (Nat.le_of_ble_eq_true rfl)⟩) ⟨q_blind, q_recv hw (mN_0 hk) (mE_0 hk) rfl, q_pre hw⟩ rfl rfl hl.1 rfl (lv_room (Nat.le_of_ble_eq_true rfl)) dX9_spare_2 ⟨Nat.zero_le _, Nat.zero_le _⟩) (fun H locs hw => ?_)
  refine lv_if_eq (tgt := 16) hx hb dX9_spare_5 (by decide) (fun c2 => ?_) (fun c2 => ?_)
  · replace h := q_t h c2
    refine lv_lconst (v := (0 : Int64)) hx hb dX9_spare_16 (by decide) ?_
    exact q_lret h C0 hr hlk hw dX9_spare_17
  · replace h := q_f h c2
    refine lv_aload_n hx hb dX9_spare_8 rfl (lv_at hl 0 rfl) ?_
    refine lv_iload_n hx hb dX9_spare_9 rfl (lv_at hl 1 rfl) ?_
    obtain ⟨o3, hco3, h⟩ := q_bind h
    refine q_calll hw (va_runV (As := [.int p1]) (rest := []) C0 (kX9_spareOf hk hco3 _) (cwV 1 hts gX9_spare_X9_spareOf rfl rfl rfl eX9_spareOf ⟨(Nat.le_of_ble_eq_true rfl), (Nat.le_of_ble_eq_true rfl)⟩) ⟨q_blind, q_recv hw (mN_0 hk) (mE_0 hk) rfl, q_pre hw⟩ rfl rfl hl.1 rfl (lv_room (Nat.le_of_ble_eq_true rfl)) dX9_spare_10 ⟨Nat.zero_le _, Nat.zero_le _⟩) (fun H locs hw => ?_)
    refine lv_goto (tgt := 17) hx hb dX9_spare_13 (by decide) ?_
    exact q_lret h C0 hr hlk hw dX9_spare_17
-- X9_grow grow(I)I
theorem iX9_grow_X9 : ∀ w ∈ wsX90, w ∈ wsX9_grow := by decide +kernel
set_option maxHeartbeats 4000000 in
set_option maxRecDepth 100000 in
theorem kX9_grow {k : Nat} {p1 : Int32} (hk : mB N k) {σ : q_M} {out : Int32 × q_M} (h : fX9_grow k p1 σ = some out) : q_Mi l (gM D cI cJ cR ad adK adV N) yX9_grow wsX9_grow { frames := 4, cells := 0, slots := 0, locals := 86 } [.ref (ad k), .int p1] σ out := by
  refine q_Mi_of (cc := cX9_grow) (maxL := 4) (ret := (some .int)) (by decide) rfl (Nat.le_of_ble_eq_true rfl) ?_
  intro p e s m below meth c ls C0 hr hlk hl hw
  obtain ⟨hx, hb, hml, hown, hts⟩ := id C0
  replace hl : lv_has ls 4 [(0, .ref (ad k)), (1, .int p1)] := hl
  unfold fX9_grow at h
  refine lv_aload_n hx hb dX9_grow_0 rfl (lv_at hl 0 rfl) ?_
  refine lv_iload_n hx hb dX9_grow_1 rfl (lv_at hl 1 rfl) ?_
  obtain ⟨o1, hco1, h⟩ := q_bind h
  refine q_calli hw (va_runV (As := [.int p1]) (rest := []) C0 (kX9_isPiece hk hco1 _) (cwV 1 hts gX9_grow_X9_isPiece rfl rfl rfl eX9_isPiece ⟨(Nat.le_of_ble_eq_true rfl), (Nat.le_of_ble_eq_true rfl)⟩) ⟨q_blind, q_recv hw (mN_0 hk) (mE_0 hk) rfl, q_pre hw⟩ rfl rfl hl.1 rfl (lv_room (Nat.le_of_ble_eq_true rfl)) dX9_grow_2 ⟨Nat.zero_le _, Nat.zero_le _⟩) (fun H locs hw => ?_)
  refine lv_if_ne (tgt := 15) hx hb dX9_grow_5 (by decide) (fun c2 => ?_) (fun c2 => ?_)
  · replace h := q_f h c2
    refine lv_aload_n hx hb dX9_grow_15 rfl (lv_at hl 0 rfl) ?_
    refine lv_iload_n hx hb dX9_grow_16 rfl (lv_at hl 1 rfl) ?_
    obtain ⟨o3, hco3, h⟩ := q_bind h
    refine q_calli hw (va_runV (As := [.int p1]) (rest := []) C0 (kX9_isOff hk hco3 _) (cwV 1 hts gX9_grow_X9_isOff rfl rfl rfl eX9_isOff ⟨(Nat.le_of_ble_eq_true rfl), (Nat.le_of_ble_eq_true rfl)⟩) ⟨q_blind, q_recv hw (mN_0 hk) (mE_0 hk) rfl, q_pre hw⟩ rfl rfl hl.1 rfl (lv_room (Nat.le_of_ble_eq_true rfl)) dX9_grow_17 ⟨Nat.zero_le _, Nat.zero_le _⟩) (fun H locs hw => ?_)
    refine lv_if_eq (tgt := 30) hx hb dX9_grow_20 (by decide) (fun c4 => ?_) (fun c4 => ?_)
    · replace h := q_t h c4
      refine lv_aload_n hx hb dX9_grow_30 rfl (lv_at hl 0 rfl) ?_
      refine lv_iload_n hx hb dX9_grow_31 rfl (lv_at hl 1 rfl) ?_
      obtain ⟨o5, hco5, h⟩ := q_bind h
      refine q_calll hw (va_runV (As := [.int p1]) (rest := []) C0 (kX9_spareOf hk hco5 _) (cwV 1 hts gX9_grow_X9_spareOf rfl rfl rfl eX9_spareOf ⟨(Nat.le_of_ble_eq_true rfl), (Nat.le_of_ble_eq_true rfl)⟩) ⟨q_blind, q_recv hw (mN_0 hk) (mE_0 hk) rfl, q_pre hw⟩ rfl rfl hl.1 rfl (lv_room (Nat.le_of_ble_eq_true rfl)) dX9_grow_32 ⟨Nat.zero_le _, Nat.zero_le _⟩) (fun H locs hw => ?_)
      refine lv_lstore_n (lv' := [(2, .long o5.1), (0, .ref (ad k)), (1, .int p1)]) hx hb dX9_grow_35 rfl hl (by decide) rfl (fun ls hl => ?_)
      refine lv_aload_n hx hb dX9_grow_36 rfl (lv_at hl 1 rfl) ?_
      refine gt_X9_14 C0 hw hk iX9_grow_X9 (by decide +kernel) dX9_grow_37 ?_
      refine lv_iload_n hx hb dX9_grow_40 rfl (lv_at hl 2 rfl) ?_
      refine lv_dup2_11 hx hb dX9_grow_41 rfl rfl ?_
      obtain ⟨b6, h⟩ := q_if h
      refine q_lald (t0 := 1) C0 hw (mN_11 hk) (mE_11 hk) rfl b6 dX9_grow_42 ?_
      refine lv_lload_n hx hb dX9_grow_43 rfl (lv_at hl 0 rfl) ?_
      refine lv_lor hx hb dX9_grow_44 ?_
      obtain ⟨b7, h⟩ := q_if h
      refine q_last (t0 := 1) C0 hw (mN_11 hk) (mE_11 hk) rfl b7 dX9_grow_45 (fun σ8 H locs e_σ8 hw => ?_)
      replace h := q_let_at e_σ8 h
      refine lv_lload_n hx hb dX9_grow_46 rfl (lv_at hl 0 rfl) ?_
      obtain ⟨o9, hco9, h⟩ := q_bind h
      refine q_calli hw (va_runS (As := [.long o5.1]) (rest := []) C0 (kX9_bits hco9 _) (va_cwS 1 hts gX9_grow_X9_bits rfl rfl rfl eX9_bits ⟨(Nat.le_of_ble_eq_true rfl), (Nat.le_of_ble_eq_true rfl)⟩) ⟨q_blind, q_pre hw⟩ rfl rfl hl.1 rfl (lv_room (Nat.le_of_ble_eq_true rfl)) dX9_grow_47 ⟨Nat.zero_le _, Nat.zero_le _⟩) (fun H locs hw => ?_)
      exact q_iret h C0 hr hlk hw dX9_grow_50
    · replace h := q_f h c4
      refine lv_aload_n hx hb dX9_grow_23 rfl (lv_at hl 0 rfl) ?_
      refine lv_bipush (v := (-5 : Int32)) hx hb dX9_grow_24 (by decide) ?_
      obtain ⟨o10, hco10, h⟩ := q_bind h
      refine q_calli hw (va_runV (As := [.int (-5 : Int32)]) (rest := []) C0 (kX9_refuse hk hco10 _) (cwV 1 hts gX9_grow_X9_refuse rfl rfl rfl eX9_refuse ⟨(Nat.le_of_ble_eq_true rfl), (Nat.le_of_ble_eq_true rfl)⟩) ⟨q_blind, q_recv hw (mN_0 hk) (mE_0 hk) rfl, q_pre hw⟩ rfl rfl hl.1 rfl (lv_room (Nat.le_of_ble_eq_true rfl)) dX9_grow_26 ⟨Nat.zero_le _, Nat.zero_le _⟩) (fun H locs hw => ?_)
      exact q_iret h C0 hr hlk hw dX9_grow_29
  · replace h := q_t h c2
    refine lv_aload_n hx hb dX9_grow_8 rfl (lv_at hl 0 rfl) ?_
    refine lv_bipush (v := (-2 : Int32)) hx hb dX9_grow_9 (by decide) ?_
    obtain ⟨o11, hco11, h⟩ := q_bind h
    refine q_calli hw (va_runV (As := [.int (-2 : Int32)]) (rest := []) C0 (kX9_refuse hk hco11 _) (cwV 1 hts gX9_grow_X9_refuse rfl rfl rfl eX9_refuse ⟨(Nat.le_of_ble_eq_true rfl), (Nat.le_of_ble_eq_true rfl)⟩) ⟨q_blind, q_recv hw (mN_0 hk) (mE_0 hk) rfl, q_pre hw⟩ rfl rfl hl.1 rfl (lv_room (Nat.le_of_ble_eq_true rfl)) dX9_grow_11 ⟨Nat.zero_le _, Nat.zero_le _⟩) (fun H locs hw => ?_)
    exact q_iret h C0 hr hlk hw dX9_grow_14
-- X9_facesOf facesOf(I)I
theorem iX9_facesOf_X9 : ∀ w ∈ wsX90, w ∈ wsX9_facesOf := by decide +kernel
set_option maxHeartbeats 4000000 in
set_option maxRecDepth 100000 in
theorem tX9_facesOf_c15 {k : Nat} {p1 : Int32} {rec4 : Int32 → Int32 → q_M → Option (Int32 × q_M)} (hk : mB N k) (C0 : CallFix p m c cX9_facesOf 6 s args wsX9_facesOf RX9) (hr : meth.sig.returnType = (some .int)) (hlk : meth.locks = false) {out : Int32 × q_M} (hrec4 : ∀ (v2 : Int32) (v3 : Int32) (σ : q_M) (H : Heap) (locs : List Loc) (ls : Array Slot), q_H (gM D cI cJ cR ad adK adV N) (q_A (gM D cI cJ cR ad adK adV N) s.heap.size) s σ H locs → lv_has ls 6 [(0, .ref (ad k)), (1, .int p1), (2, .int v2), (3, .int v3)] → rec4 v2 v3 σ = some out → W p l e { frames := 2, cells := 0, slots := 0, locals := 46 } s m args below meth c H locs 0 0 (MQ below (q_Ri (gM D cI cJ cR ad adK adV N) (q_A (gM D cI cJ cR ad adK adV N) s.heap.size) out) args s 0 0 (q_A (gM D cI cJ cR ad adK adV N) s.heap.size)) (F0 m 4 ls [])) : ∀ n : Nat, ∀ (v2 : Int32) (v3 : Int32) (v4 : Int32) (σ : q_M) (H : Heap) (locs : List Loc) (ls : Array Slot), q_H (gM D cI cJ cR ad adK adV N) (q_A (gM D cI cJ cR ad adK adV N) s.heap.size) s σ H locs → lv_has ls 6 [(0, .ref (ad k)), (1, .int p1), (2, .int v2), (3, .int v3), (4, .int v4)] → fX9_facesOf_c15 k p1 rec4 n v2 v3 v4 σ = some out → W p l e { frames := 2, cells := 0, slots := 0, locals := 46 } s m args below meth c H locs 0 0 (MQ below (q_Ri (gM D cI cJ cR ad adK adV N) (q_A (gM D cI cJ cR ad adK adV N) s.heap.size) out) args s 0 0 (q_A (gM D cI cJ cR ad adK adV N) s.heap.size)) (F0 m 15 ls []) := by
  obtain ⟨hx, hb, hml, hown, hts⟩ := id C0
  intro n
  induction n with
  | zero =>
    intro v2 v3 v4 σ H locs ls  hw hl h
    cases (show (none : Option (Int32 × q_M)) = some out from h)
  | succ n hrec15 =>
    intro v2 v3 v4 σ H locs ls  hw hl h
    replace h : fX9_facesOf_c15b k p1 rec4 (fX9_facesOf_c15 k p1 rec4 n) v2 v3 v4 σ = some out := h
    unfold fX9_facesOf_c15b at h
    refine lv_aload_n hx hb dX9_facesOf_15 rfl (lv_at hl 0 rfl) ?_
    refine gt_X9_14 C0 hw hk iX9_facesOf_X9 (by decide +kernel) dX9_facesOf_16 ?_
    refine lv_iload_n hx hb dX9_facesOf_19 rfl (lv_at hl 1 rfl) ?_
    obtain ⟨b1, h⟩ := q_if h
    refine q_lald (t0 := 1) C0 hw (mN_11 hk) (mE_11 hk) rfl b1 dX9_facesOf_20 ?_
    refine lv_iload_n hx hb dX9_facesOf_21 rfl (lv_at hl 3 rfl) ?_
    obtain ⟨o2, hco2, h⟩ := q_bind h
    refine q_calli hw (va_runS (As := [.long (σ.2 (k + 11) p1.toNatClampNeg), .int v3]) (rest := []) C0 (kX9_has hco2 _) (va_cwS 2 hts gX9_facesOf_X9_has rfl rfl rfl eX9_has ⟨(Nat.le_of_ble_eq_true rfl), (Nat.le_of_ble_eq_true rfl)⟩) ⟨q_blind, q_pre hw⟩ rfl rfl hl.1 rfl (lv_room (Nat.le_of_ble_eq_true rfl)) dX9_facesOf_22 ⟨Nat.zero_le _, Nat.zero_le _⟩) (fun H locs hw => ?_)
    refine lv_if_eq (tgt := 76) hx hb dX9_facesOf_25 (by decide) (fun c3 => ?_) (fun c3 => ?_)
    · replace h := q_t h c3
      refine lv_iinc (v := (v3 + (1 : Int32))) (lv' := [(3, .int (v3 + (1 : Int32))), (0, .ref (ad k)), (1, .int p1), (2, .int v2), (4, .int v4)]) hx hb dX9_facesOf_76 hl (k := 3) rfl rfl (by decide) rfl (fun ls hl => ?_)
      refine lv_goto (tgt := 4) hx hb dX9_facesOf_79 (by decide) ?_
      exact hrec4 v2 (v3 + (1 : Int32)) o2.2 _ _ _ hw (lv_sub hl [1, 2, 3, 0] rfl) h
    · replace h := q_f h c3
      refine lv_iload hx hb dX9_facesOf_28 (lv_at hl 4 rfl) ?_
      refine lv_bipush (v := (6 : Int32)) hx hb dX9_facesOf_30 (by decide) ?_
      refine lv_icmp_ge (tgt := 76) hx hb dX9_facesOf_32 (by decide) (fun c4 => ?_) (fun c4 => ?_)
      · replace h := q_t h c4
        refine lv_iinc (v := (v3 + (1 : Int32))) (lv' := [(3, .int (v3 + (1 : Int32))), (0, .ref (ad k)), (1, .int p1), (2, .int v2), (4, .int v4)]) hx hb dX9_facesOf_76 hl (k := 3) rfl rfl (by decide) rfl (fun ls hl => ?_)
        refine lv_goto (tgt := 4) hx hb dX9_facesOf_79 (by decide) ?_
        exact hrec4 v2 (v3 + (1 : Int32)) o2.2 _ _ _ hw (lv_sub hl [1, 2, 3, 0] rfl) h
      · replace h := q_f h c4
        refine lv_aload_n hx hb dX9_facesOf_35 rfl (lv_at hl 0 rfl) ?_
        refine lv_iload_n hx hb dX9_facesOf_36 rfl (lv_at hl 3 rfl) ?_
        refine lv_iload hx hb dX9_facesOf_37 (lv_at hl 4 rfl) ?_
        obtain ⟨o5, hco5, h⟩ := q_bind h
        refine q_calli hw (va_runV (As := [.int v3, .int v4]) (rest := []) C0 (kX9_from hk hco5 _) (cwV 2 hts gX9_facesOf_X9_from rfl rfl rfl eX9_from ⟨(Nat.le_of_ble_eq_true rfl), (Nat.le_of_ble_eq_true rfl)⟩) ⟨q_blind, q_recv hw (mN_0 hk) (mE_0 hk) rfl, q_pre hw⟩ rfl rfl hl.1 rfl (lv_room (Nat.le_of_ble_eq_true rfl)) dX9_facesOf_39 ⟨Nat.zero_le _, Nat.zero_le _⟩) (fun H locs hw => ?_)
        refine lv_istore (lv' := [(5, .int o5.1), (0, .ref (ad k)), (1, .int p1), (2, .int v2), (3, .int v3), (4, .int v4)]) hx hb dX9_facesOf_42 hl (by decide) rfl (fun ls hl => ?_)
        refine lv_iload_n hx hb dX9_facesOf_44 rfl (lv_at hl 3 rfl) ?_
        refine lv_iload hx hb dX9_facesOf_45 (lv_at hl 0 rfl) ?_
        refine lv_iconst (v := (-1 : Int32)) hx hb dX9_facesOf_47 (by decide) ?_
        refine lv_icmp_eq (tgt := 67) hx hb dX9_facesOf_48 (by decide) (fun c6 => ?_) (fun c6 => ?_)
        · replace h := q_t h c6
          refine lv_iconst (v := (0 : Int32)) hx hb dX9_facesOf_67 (by decide) ?_
          refine lv_iadd hx hb dX9_facesOf_68 ?_
          refine lv_istore_n (lv' := [(2, .int (v2 + (0 : Int32))), (5, .int o5.1), (0, .ref (ad k)), (1, .int p1), (3, .int v3), (4, .int v4)]) hx hb dX9_facesOf_69 rfl hl (by decide) rfl (fun ls hl => ?_)
          refine lv_iinc (v := (v4 + (1 : Int32))) (lv' := [(4, .int (v4 + (1 : Int32))), (2, .int (v2 + (0 : Int32))), (5, .int o5.1), (0, .ref (ad k)), (1, .int p1), (3, .int v3)]) hx hb dX9_facesOf_70 hl (k := 5) rfl rfl (by decide) rfl (fun ls hl => ?_)
          refine lv_goto (tgt := 15) hx hb dX9_facesOf_73 (by decide) ?_
          exact hrec15 (v2 + (0 : Int32)) v3 (v4 + (1 : Int32)) o5.2 _ _ _ hw (lv_sub hl [3, 4, 1, 5, 0] rfl) h
        · replace h := q_f h c6
          refine lv_aload_n hx hb dX9_facesOf_51 rfl (lv_at hl 1 rfl) ?_
          refine gt_X9_12 C0 hw hk iX9_facesOf_X9 (by decide +kernel) dX9_facesOf_52 ?_
          refine lv_iload hx hb dX9_facesOf_55 (lv_at hl 0 rfl) ?_
          obtain ⟨o7, hco7, h⟩ := q_bind h
          refine q_calli hw (va_runS (As := [.long (o5.2.2 k 12), .int o5.1]) (rest := [.int v2]) C0 (kX9_has hco7 _) (va_cwS 2 hts gX9_facesOf_X9_has rfl rfl rfl eX9_has ⟨(Nat.le_of_ble_eq_true rfl), (Nat.le_of_ble_eq_true rfl)⟩) ⟨q_blind, q_pre hw⟩ rfl rfl hl.1 rfl (lv_room (Nat.le_of_ble_eq_true rfl)) dX9_facesOf_57 ⟨Nat.zero_le _, Nat.zero_le _⟩) (fun H locs hw => ?_)
          refine lv_if_eq (tgt := 67) hx hb dX9_facesOf_60 (by decide) (fun c8 => ?_) (fun c8 => ?_)
          · replace h := q_t h c8
            refine lv_iconst (v := (0 : Int32)) hx hb dX9_facesOf_67 (by decide) ?_
            refine lv_iadd hx hb dX9_facesOf_68 ?_
            refine lv_istore_n (lv' := [(2, .int (v2 + (0 : Int32))), (5, .int o5.1), (0, .ref (ad k)), (1, .int p1), (3, .int v3), (4, .int v4)]) hx hb dX9_facesOf_69 rfl hl (by decide) rfl (fun ls hl => ?_)
            refine lv_iinc (v := (v4 + (1 : Int32))) (lv' := [(4, .int (v4 + (1 : Int32))), (2, .int (v2 + (0 : Int32))), (5, .int o5.1), (0, .ref (ad k)), (1, .int p1), (3, .int v3)]) hx hb dX9_facesOf_70 hl (k := 5) rfl rfl (by decide) rfl (fun ls hl => ?_)
            refine lv_goto (tgt := 15) hx hb dX9_facesOf_73 (by decide) ?_
            exact hrec15 (v2 + (0 : Int32)) v3 (v4 + (1 : Int32)) o7.2 _ _ _ hw (lv_sub hl [3, 4, 1, 5, 0] rfl) h
          · replace h := q_f h c8
            refine lv_iconst (v := (1 : Int32)) hx hb dX9_facesOf_63 (by decide) ?_
            refine lv_goto (tgt := 68) hx hb dX9_facesOf_64 (by decide) ?_
            refine lv_iadd hx hb dX9_facesOf_68 ?_
            refine lv_istore_n (lv' := [(2, .int (v2 + (1 : Int32))), (5, .int o5.1), (0, .ref (ad k)), (1, .int p1), (3, .int v3), (4, .int v4)]) hx hb dX9_facesOf_69 rfl hl (by decide) rfl (fun ls hl => ?_)
            refine lv_iinc (v := (v4 + (1 : Int32))) (lv' := [(4, .int (v4 + (1 : Int32))), (2, .int (v2 + (1 : Int32))), (5, .int o5.1), (0, .ref (ad k)), (1, .int p1), (3, .int v3)]) hx hb dX9_facesOf_70 hl (k := 5) rfl rfl (by decide) rfl (fun ls hl => ?_)
            refine lv_goto (tgt := 15) hx hb dX9_facesOf_73 (by decide) ?_
            exact hrec15 (v2 + (1 : Int32)) v3 (v4 + (1 : Int32)) o7.2 _ _ _ hw (lv_sub hl [3, 4, 1, 5, 0] rfl) h
set_option maxHeartbeats 4000000 in
set_option maxRecDepth 100000 in
theorem tX9_facesOf_c4 {k : Nat} {p1 : Int32} (hk : mB N k) (C0 : CallFix p m c cX9_facesOf 6 s args wsX9_facesOf RX9) (hr : meth.sig.returnType = (some .int)) (hlk : meth.locks = false) {out : Int32 × q_M}  : ∀ n : Nat, ∀ (v2 : Int32) (v3 : Int32) (σ : q_M) (H : Heap) (locs : List Loc) (ls : Array Slot), q_H (gM D cI cJ cR ad adK adV N) (q_A (gM D cI cJ cR ad adK adV N) s.heap.size) s σ H locs → lv_has ls 6 [(0, .ref (ad k)), (1, .int p1), (2, .int v2), (3, .int v3)] → fX9_facesOf_c4 k p1 n v2 v3 σ = some out → W p l e { frames := 2, cells := 0, slots := 0, locals := 46 } s m args below meth c H locs 0 0 (MQ below (q_Ri (gM D cI cJ cR ad adK adV N) (q_A (gM D cI cJ cR ad adK adV N) s.heap.size) out) args s 0 0 (q_A (gM D cI cJ cR ad adK adV N) s.heap.size)) (F0 m 4 ls []) := by
  obtain ⟨hx, hb, hml, hown, hts⟩ := id C0
  intro n
  induction n with
  | zero =>
    intro v2 v3 σ H locs ls  hw hl h
    cases (show (none : Option (Int32 × q_M)) = some out from h)
  | succ n hrec4 =>
    intro v2 v3 σ H locs ls  hw hl h
    replace h : fX9_facesOf_c4b k p1 (fX9_facesOf_c4 k p1 n) v2 v3 σ = some out := h
    unfold fX9_facesOf_c4b at h
    refine lv_iload_n hx hb dX9_facesOf_4 rfl (lv_at hl 3 rfl) ?_
    refine lv_aload_n hx hb dX9_facesOf_5 rfl (lv_at hl 0 rfl) ?_
    obtain ⟨o1, hco1, h⟩ := q_bind h
    refine q_calli hw (va_runV (As := []) (rest := [.int v3]) C0 (kX9_many hk hco1 _) (cwV 0 hts gX9_facesOf_X9_many rfl rfl rfl eX9_many ⟨(Nat.le_of_ble_eq_true rfl), (Nat.le_of_ble_eq_true rfl)⟩) ⟨q_blind, q_recv hw (mN_0 hk) (mE_0 hk) rfl, q_pre hw⟩ rfl rfl hl.1 rfl (lv_room (Nat.le_of_ble_eq_true rfl)) dX9_facesOf_6 ⟨Nat.zero_le _, Nat.zero_le _⟩) (fun H locs hw => ?_)
    refine lv_icmp_ge (tgt := 82) hx hb dX9_facesOf_9 (by decide) (fun c2 => ?_) (fun c2 => ?_)
    · replace h := q_t h c2
      refine lv_iload_n hx hb dX9_facesOf_82 rfl (lv_at hl 2 rfl) ?_
      exact q_iret h C0 hr hlk hw dX9_facesOf_83
    · replace h := q_f h c2
      refine lv_iconst (v := (0 : Int32)) hx hb dX9_facesOf_12 (by decide) ?_
      refine lv_istore (lv' := [(4, .int (0 : Int32)), (0, .ref (ad k)), (1, .int p1), (2, .int v2), (3, .int v3)]) hx hb dX9_facesOf_13 hl (by decide) rfl (fun ls hl => ?_)
      exact tX9_facesOf_c15 hk C0 hr hlk hrec4 q_FU v2 v3 (0 : Int32) o1.2 _ _ _ hw (lv_sub hl [1, 2, 3, 4, 0] rfl) h
set_option maxHeartbeats 4000000 in
set_option maxRecDepth 100000 in
theorem kX9_facesOf {k : Nat} {p1 : Int32} (hk : mB N k) {σ : q_M} {out : Int32 × q_M} (h : fX9_facesOf k p1 σ = some out) : q_Mi l (gM D cI cJ cR ad adK adV N) yX9_facesOf wsX9_facesOf { frames := 2, cells := 0, slots := 0, locals := 46 } [.ref (ad k), .int p1] σ out := by
  refine q_Mi_of (cc := cX9_facesOf) (maxL := 6) (ret := (some .int)) (by decide) rfl (Nat.le_of_ble_eq_true rfl) ?_
  intro p e s m below meth c ls C0 hr hlk hl hw
  obtain ⟨hx, hb, hml, hown, hts⟩ := id C0
  replace hl : lv_has ls 6 [(0, .ref (ad k)), (1, .int p1)] := hl
  unfold fX9_facesOf at h
  refine lv_iconst (v := (0 : Int32)) hx hb dX9_facesOf_0 (by decide) ?_
  refine lv_istore_n (lv' := [(2, .int (0 : Int32)), (0, .ref (ad k)), (1, .int p1)]) hx hb dX9_facesOf_1 rfl hl (by decide) rfl (fun ls hl => ?_)
  refine lv_iconst (v := (0 : Int32)) hx hb dX9_facesOf_2 (by decide) ?_
  refine lv_istore_n (lv' := [(3, .int (0 : Int32)), (2, .int (0 : Int32)), (0, .ref (ad k)), (1, .int p1)]) hx hb dX9_facesOf_3 rfl hl (by decide) rfl (fun ls hl => ?_)
  exact tX9_facesOf_c4 hk C0 hr hlk q_FU (0 : Int32) (0 : Int32) σ _ _ _ hw (lv_sub hl [2, 3, 1, 0] rfl) h
-- X9_faces faces(I)I
theorem eX9_facesOf : yX9_facesOf.cls = RX9 ∧ yX9_facesOf.cls ≠ "java/lang/invoke/MethodHandle" ∧ yX9_facesOf.cls ≠ "java/lang/invoke/VarHandle" ∧ (parseMethodDescriptor yX9_facesOf.desc).map (fun d => d.parameters.length) = some 1 := by decide +kernel
set_option maxHeartbeats 4000000 in
set_option maxRecDepth 100000 in
theorem kX9_faces {k : Nat} {p1 : Int32} (hk : mB N k) {σ : q_M} {out : Int32 × q_M} (h : fX9_faces k p1 σ = some out) : q_Mi l (gM D cI cJ cR ad adK adV N) yX9_faces wsX9_faces { frames := 3, cells := 0, slots := 0, locals := 71 } [.ref (ad k), .int p1] σ out := by
  refine q_Mi_of (cc := cX9_faces) (maxL := 2) (ret := (some .int)) (by decide) rfl (Nat.le_of_ble_eq_true rfl) ?_
  intro p e s m below meth c ls C0 hr hlk hl hw
  obtain ⟨hx, hb, hml, hown, hts⟩ := id C0
  replace hl : lv_has ls 2 [(0, .ref (ad k)), (1, .int p1)] := hl
  unfold fX9_faces at h
  refine lv_aload_n hx hb dX9_faces_0 rfl (lv_at hl 0 rfl) ?_
  refine lv_iload_n hx hb dX9_faces_1 rfl (lv_at hl 1 rfl) ?_
  obtain ⟨o1, hco1, h⟩ := q_bind h
  refine q_calli hw (va_runV (As := [.int p1]) (rest := []) C0 (kX9_isPiece hk hco1 _) (cwV 1 hts gX9_faces_X9_isPiece rfl rfl rfl eX9_isPiece ⟨(Nat.le_of_ble_eq_true rfl), (Nat.le_of_ble_eq_true rfl)⟩) ⟨q_blind, q_recv hw (mN_0 hk) (mE_0 hk) rfl, q_pre hw⟩ rfl rfl hl.1 rfl (lv_room (Nat.le_of_ble_eq_true rfl)) dX9_faces_2 ⟨Nat.zero_le _, Nat.zero_le _⟩) (fun H locs hw => ?_)
  refine lv_if_eq (tgt := 16) hx hb dX9_faces_5 (by decide) (fun c2 => ?_) (fun c2 => ?_)
  · replace h := q_t h c2
    refine lv_aload_n hx hb dX9_faces_16 rfl (lv_at hl 0 rfl) ?_
    refine lv_bipush (v := (-2 : Int32)) hx hb dX9_faces_17 (by decide) ?_
    obtain ⟨o3, hco3, h⟩ := q_bind h
    refine q_calli hw (va_runV (As := [.int (-2 : Int32)]) (rest := []) C0 (kX9_refuse hk hco3 _) (cwV 1 hts gX9_faces_X9_refuse rfl rfl rfl eX9_refuse ⟨(Nat.le_of_ble_eq_true rfl), (Nat.le_of_ble_eq_true rfl)⟩) ⟨q_blind, q_recv hw (mN_0 hk) (mE_0 hk) rfl, q_pre hw⟩ rfl rfl hl.1 rfl (lv_room (Nat.le_of_ble_eq_true rfl)) dX9_faces_19 ⟨Nat.zero_le _, Nat.zero_le _⟩) (fun H locs hw => ?_)
    exact q_iret h C0 hr hlk hw dX9_faces_22
  · replace h := q_f h c2
    refine lv_aload_n hx hb dX9_faces_8 rfl (lv_at hl 0 rfl) ?_
    refine lv_iload_n hx hb dX9_faces_9 rfl (lv_at hl 1 rfl) ?_
    obtain ⟨o4, hco4, h⟩ := q_bind h
    refine q_calli hw (va_runV (As := [.int p1]) (rest := []) C0 (kX9_facesOf hk hco4 _) (cwV 1 hts gX9_faces_X9_facesOf rfl rfl rfl eX9_facesOf ⟨(Nat.le_of_ble_eq_true rfl), (Nat.le_of_ble_eq_true rfl)⟩) ⟨q_blind, q_recv hw (mN_0 hk) (mE_0 hk) rfl, q_pre hw⟩ rfl rfl hl.1 rfl (lv_room (Nat.le_of_ble_eq_true rfl)) dX9_faces_10 ⟨Nat.zero_le _, Nat.zero_le _⟩) (fun H locs hw => ?_)
    refine lv_goto (tgt := 22) hx hb dX9_faces_13 (by decide) ?_
    exact q_iret h C0 hr hlk hw dX9_faces_22
-- X9_casts casts()I
theorem iX9_casts_X9 : ∀ w ∈ wsX90, w ∈ wsX9_casts := by decide +kernel
set_option maxHeartbeats 4000000 in
set_option maxRecDepth 100000 in
theorem tX9_casts_c29 {k : Nat} {rec4 : Int32 → Int32 → q_M → Option (Int32 × q_M)} (hk : mB N k) (C0 : CallFix p m c cX9_casts 4 s args wsX9_casts RX9) (hr : meth.sig.returnType = (some .int)) (hlk : meth.locks = false) {out : Int32 × q_M} (hrec4 : ∀ (v1 : Int32) (v2 : Int32) (σ : q_M) (H : Heap) (locs : List Loc) (ls : Array Slot), q_H (gM D cI cJ cR ad adK adV N) (q_A (gM D cI cJ cR ad adK adV N) s.heap.size) s σ H locs → lv_has ls 4 [(0, .ref (ad k)), (1, .int v1), (2, .int v2)] → rec4 v1 v2 σ = some out → W p l e { frames := 3, cells := 0, slots := 0, locals := 71 } s m args below meth c H locs 0 0 (MQ below (q_Ri (gM D cI cJ cR ad adK adV N) (q_A (gM D cI cJ cR ad adK adV N) s.heap.size) out) args s 0 0 (q_A (gM D cI cJ cR ad adK adV N) s.heap.size)) (F0 m 4 ls [])) : ∀ (v1 : Int32) (v2 : Int32) (s0 : Int32) (σ : q_M) (H : Heap) (locs : List Loc) (ls : Array Slot), q_H (gM D cI cJ cR ad adK adV N) (q_A (gM D cI cJ cR ad adK adV N) s.heap.size) s σ H locs → lv_has ls 4 [(0, .ref (ad k)), (1, .int v1), (2, .int v2)] → fX9_casts_c29 k rec4 v1 v2 s0 σ = some out → W p l e { frames := 3, cells := 0, slots := 0, locals := 71 } s m args below meth c H locs 0 0 (MQ below (q_Ri (gM D cI cJ cR ad adK adV N) (q_A (gM D cI cJ cR ad adK adV N) s.heap.size) out) args s 0 0 (q_A (gM D cI cJ cR ad adK adV N) s.heap.size)) (F0 m 29 ls [.int s0]) := by
  obtain ⟨hx, hb, hml, hown, hts⟩ := id C0
  intro v1 v2 s0 σ H locs ls  hw hl h
  unfold fX9_casts_c29 at h
  refine lv_istore_n (lv' := [(3, .int s0), (0, .ref (ad k)), (1, .int v1), (2, .int v2)]) hx hb dX9_casts_29 rfl hl (by decide) rfl (fun ls hl => ?_)
  refine lv_iload_n hx hb dX9_casts_30 rfl (lv_at hl 0 rfl) ?_
  refine lv_iload_n hx hb dX9_casts_31 rfl (lv_at hl 2 rfl) ?_
  refine lv_icmp_le (tgt := 39) hx hb dX9_casts_32 (by decide) (fun c1 => ?_) (fun c1 => ?_)
  · replace h := q_t h c1
    refine lv_iload_n hx hb dX9_casts_39 rfl (lv_at hl 2 rfl) ?_
    refine lv_istore_n (lv' := [(1, .int v1), (3, .int s0), (0, .ref (ad k)), (2, .int v2)]) hx hb dX9_casts_40 rfl hl (by decide) rfl (fun ls hl => ?_)
    refine lv_iinc (v := (v2 + (1 : Int32))) (lv' := [(2, .int (v2 + (1 : Int32))), (1, .int v1), (3, .int s0), (0, .ref (ad k))]) hx hb dX9_casts_41 hl (k := 3) rfl rfl (by decide) rfl (fun ls hl => ?_)
    refine lv_goto (tgt := 4) hx hb dX9_casts_44 (by decide) ?_
    exact hrec4 v1 (v2 + (1 : Int32)) σ _ _ _ hw (lv_sub hl [3, 1, 0] rfl) h
  · replace h := q_f h c1
    refine lv_iload_n hx hb dX9_casts_35 rfl (lv_at hl 0 rfl) ?_
    refine lv_goto (tgt := 40) hx hb dX9_casts_36 (by decide) ?_
    refine lv_istore_n (lv' := [(1, .int s0), (3, .int s0), (0, .ref (ad k)), (2, .int v2)]) hx hb dX9_casts_40 rfl hl (by decide) rfl (fun ls hl => ?_)
    refine lv_iinc (v := (v2 + (1 : Int32))) (lv' := [(2, .int (v2 + (1 : Int32))), (1, .int s0), (3, .int s0), (0, .ref (ad k))]) hx hb dX9_casts_41 hl (k := 3) rfl rfl (by decide) rfl (fun ls hl => ?_)
    refine lv_goto (tgt := 4) hx hb dX9_casts_44 (by decide) ?_
    exact hrec4 s0 (v2 + (1 : Int32)) σ _ _ _ hw (lv_sub hl [3, 1, 0] rfl) h
set_option maxHeartbeats 4000000 in
set_option maxRecDepth 100000 in
theorem tX9_casts_c4 {k : Nat} (hk : mB N k) (C0 : CallFix p m c cX9_casts 4 s args wsX9_casts RX9) (hr : meth.sig.returnType = (some .int)) (hlk : meth.locks = false) {out : Int32 × q_M}  : ∀ n : Nat, ∀ (v1 : Int32) (v2 : Int32) (σ : q_M) (H : Heap) (locs : List Loc) (ls : Array Slot), q_H (gM D cI cJ cR ad adK adV N) (q_A (gM D cI cJ cR ad adK adV N) s.heap.size) s σ H locs → lv_has ls 4 [(0, .ref (ad k)), (1, .int v1), (2, .int v2)] → fX9_casts_c4 k n v1 v2 σ = some out → W p l e { frames := 3, cells := 0, slots := 0, locals := 71 } s m args below meth c H locs 0 0 (MQ below (q_Ri (gM D cI cJ cR ad adK adV N) (q_A (gM D cI cJ cR ad adK adV N) s.heap.size) out) args s 0 0 (q_A (gM D cI cJ cR ad adK adV N) s.heap.size)) (F0 m 4 ls []) := by
  obtain ⟨hx, hb, hml, hown, hts⟩ := id C0
  intro n
  induction n with
  | zero =>
    intro v1 v2 σ H locs ls  hw hl h
    cases (show (none : Option (Int32 × q_M)) = some out from h)
  | succ n hrec4 =>
    intro v1 v2 σ H locs ls  hw hl h
    replace h : fX9_casts_c4b k (fX9_casts_c4 k n) v1 v2 σ = some out := h
    unfold fX9_casts_c4b at h
    refine lv_iload_n hx hb dX9_casts_4 rfl (lv_at hl 2 rfl) ?_
    refine lv_aload_n hx hb dX9_casts_5 rfl (lv_at hl 0 rfl) ?_
    refine gt_X9_13 C0 hw hk iX9_casts_X9 (by decide +kernel) dX9_casts_6 ?_
    refine lv_icmp_ge (tgt := 47) hx hb dX9_casts_9 (by decide) (fun c1 => ?_) (fun c1 => ?_)
    · replace h := q_t h c1
      refine lv_iload_n hx hb dX9_casts_47 rfl (lv_at hl 1 rfl) ?_
      refine lv_if_ne (tgt := 57) hx hb dX9_casts_48 (by decide) (fun c2 => ?_) (fun c2 => ?_)
      · replace h := q_f h c2
        refine lv_aload_n hx hb dX9_casts_57 rfl (lv_at hl 0 rfl) ?_
        refine gt_X9_18 C0 hw hk iX9_casts_X9 (by decide +kernel) dX9_casts_58 ?_
        refine lv_iload_n hx hb dX9_casts_61 rfl (lv_at hl 1 rfl) ?_
        obtain ⟨z3, h⟩ := q_if h
        refine lv_idiv hx hb dX9_casts_62 z3 ?_
        exact q_iret h C0 hr hlk hw dX9_casts_63
      · replace h := q_t h c2
        refine lv_sipush (v := (999 : Int32)) hx hb dX9_casts_51 (by decide) ?_
        refine lv_goto (tgt := 63) hx hb dX9_casts_54 (by decide) ?_
        exact q_iret h C0 hr hlk hw dX9_casts_63
    · replace h := q_f h c1
      refine lv_aload_n hx hb dX9_casts_12 rfl (lv_at hl 0 rfl) ?_
      refine lv_iload_n hx hb dX9_casts_13 rfl (lv_at hl 2 rfl) ?_
      obtain ⟨o4, hco4, h⟩ := q_bind h
      refine q_calli hw (va_runV (As := [.int v2]) (rest := []) C0 (kX9_isOff hk hco4 _) (cwV 1 hts gX9_casts_X9_isOff rfl rfl rfl eX9_isOff ⟨(Nat.le_of_ble_eq_true rfl), (Nat.le_of_ble_eq_true rfl)⟩) ⟨q_blind, q_recv hw (mN_0 hk) (mE_0 hk) rfl, q_pre hw⟩ rfl rfl hl.1 rfl (lv_room (Nat.le_of_ble_eq_true rfl)) dX9_casts_14 ⟨Nat.zero_le _, Nat.zero_le _⟩) (fun H locs hw => ?_)
      refine lv_if_eq (tgt := 24) hx hb dX9_casts_17 (by decide) (fun c5 => ?_) (fun c5 => ?_)
      · replace h := q_t h c5
        refine lv_aload_n hx hb dX9_casts_24 rfl (lv_at hl 0 rfl) ?_
        refine lv_iload_n hx hb dX9_casts_25 rfl (lv_at hl 2 rfl) ?_
        obtain ⟨o6, hco6, h⟩ := q_bind h
        refine q_calli hw (va_runV (As := [.int v2]) (rest := []) C0 (kX9_facesOf hk hco6 _) (cwV 1 hts gX9_casts_X9_facesOf rfl rfl rfl eX9_facesOf ⟨(Nat.le_of_ble_eq_true rfl), (Nat.le_of_ble_eq_true rfl)⟩) ⟨q_blind, q_recv hw (mN_0 hk) (mE_0 hk) rfl, q_pre hw⟩ rfl rfl hl.1 rfl (lv_room (Nat.le_of_ble_eq_true rfl)) dX9_casts_26 ⟨Nat.zero_le _, Nat.zero_le _⟩) (fun H locs hw => ?_)
        exact tX9_casts_c29 hk C0 hr hlk hrec4 v1 v2 o6.1 o6.2 _ _ _ hw (lv_sub hl [0, 1, 2] rfl) h
      · replace h := q_f h c5
        refine lv_iconst (v := (0 : Int32)) hx hb dX9_casts_20 (by decide) ?_
        refine lv_goto (tgt := 29) hx hb dX9_casts_21 (by decide) ?_
        exact tX9_casts_c29 hk C0 hr hlk hrec4 v1 v2 (0 : Int32) o4.2 _ _ _ hw (lv_sub hl [0, 1, 2] rfl) h
set_option maxHeartbeats 4000000 in
set_option maxRecDepth 100000 in
theorem kX9_casts {k : Nat} (hk : mB N k) {σ : q_M} {out : Int32 × q_M} (h : fX9_casts k σ = some out) : q_Mi l (gM D cI cJ cR ad adK adV N) yX9_casts wsX9_casts { frames := 3, cells := 0, slots := 0, locals := 71 } [.ref (ad k)] σ out := by
  refine q_Mi_of (cc := cX9_casts) (maxL := 4) (ret := (some .int)) (by decide) rfl (Nat.le_of_ble_eq_true rfl) ?_
  intro p e s m below meth c ls C0 hr hlk hl hw
  obtain ⟨hx, hb, hml, hown, hts⟩ := id C0
  replace hl : lv_has ls 4 [(0, .ref (ad k))] := hl
  unfold fX9_casts at h
  refine lv_iconst (v := (0 : Int32)) hx hb dX9_casts_0 (by decide) ?_
  refine lv_istore_n (lv' := [(1, .int (0 : Int32)), (0, .ref (ad k))]) hx hb dX9_casts_1 rfl hl (by decide) rfl (fun ls hl => ?_)
  refine lv_iconst (v := (0 : Int32)) hx hb dX9_casts_2 (by decide) ?_
  refine lv_istore_n (lv' := [(2, .int (0 : Int32)), (1, .int (0 : Int32)), (0, .ref (ad k))]) hx hb dX9_casts_3 rfl hl (by decide) rfl (fun ls hl => ?_)
  exact tX9_casts_c4 hk C0 hr hlk q_FU (0 : Int32) (0 : Int32) σ _ _ _ hw (lv_sub hl [2, 1, 0] rfl) h
-- X9_step step()I
theorem iX9_step_X9 : ∀ w ∈ wsX90, w ∈ wsX9_step := by decide +kernel
set_option maxHeartbeats 4000000 in
set_option maxRecDepth 100000 in
theorem kX9_step {k : Nat} (hk : mB N k) {σ : q_M} {out : Int32 × q_M} (h : fX9_step k σ = some out) : q_Mi l (gM D cI cJ cR ad adK adV N) yX9_step wsX9_step { frames := 6, cells := 0, slots := 0, locals := 153 } [.ref (ad k)] σ out := by
  refine q_Mi_of (cc := cX9_step) (maxL := 1) (ret := (some .int)) (by decide) rfl (Nat.le_of_ble_eq_true rfl) ?_
  intro p e s m below meth c ls C0 hr hlk hl hw
  obtain ⟨hx, hb, hml, hown, hts⟩ := id C0
  replace hl : lv_has ls 1 [(0, .ref (ad k))] := hl
  unfold fX9_step at h
  refine lv_aload_n hx hb dX9_step_0 rfl (lv_at hl 0 rfl) ?_
  obtain ⟨o1, hco1, h⟩ := q_bind h
  refine q_calli hw (va_runV (As := []) (rest := []) C0 (kX9_findOrder hk hco1 _) (cwV 0 hts gX9_step_X9_findOrder rfl rfl rfl eX9_findOrder ⟨(Nat.le_of_ble_eq_true rfl), (Nat.le_of_ble_eq_true rfl)⟩) ⟨q_blind, q_recv hw (mN_0 hk) (mE_0 hk) rfl, q_pre hw⟩ rfl rfl hl.1 rfl (lv_room (Nat.le_of_ble_eq_true rfl)) dX9_step_1 ⟨Nat.zero_le _, Nat.zero_le _⟩) (fun H locs hw => ?_)
  refine lv_pop hx hb dX9_step_4 rfl ?_
  refine lv_aload_n hx hb dX9_step_5 rfl (lv_at hl 0 rfl) ?_
  refine gt_X9_31 C0 hw hk iX9_step_X9 (by decide +kernel) dX9_step_6 ?_
  refine lv_if_ne (tgt := 19) hx hb dX9_step_9 (by decide) (fun c2 => ?_) (fun c2 => ?_)
  · replace h := q_f h c2
    refine lv_aload_n hx hb dX9_step_19 rfl (lv_at hl 0 rfl) ?_
    refine lv_dup hx hb dX9_step_20 rfl ?_
    refine gt_X9_15 C0 hw hk iX9_step_X9 (by decide +kernel) dX9_step_21 ?_
    refine lv_iconst (v := (1 : Int32)) hx hb dX9_step_24 (by decide) ?_
    refine lv_aload_n hx hb dX9_step_25 rfl (lv_at hl 0 rfl) ?_
    refine gt_X9_29 C0 hw hk iX9_step_X9 (by decide +kernel) dX9_step_26 ?_
    refine lv_iconst (v := (0 : Int32)) hx hb dX9_step_29 (by decide) ?_
    obtain ⟨b3, h⟩ := q_if h
    refine q_iald (t0 := 0) C0 hw (mN_14 hk) (mE_14 hk) rfl b3 dX9_step_30 ?_
    refine q_ishl (v := (q_sl (1 : Int32) (o1.2.1 (k + 14) (0 : Int32).toNatClampNeg))) C0 dX9_step_31 rfl ?_
    refine lv_ior hx hb dX9_step_32 ?_
    refine pt_X9_15 C0 hw hk iX9_step_X9 (by decide +kernel) dX9_step_33 (fun σ4 H locs e_σ4 hw => ?_)
    replace h := q_let_at e_σ4 h
    refine lv_aload_n hx hb dX9_step_36 rfl (lv_at hl 0 rfl) ?_
    refine gt_X9_29 C0 hw hk iX9_step_X9 (by decide +kernel) dX9_step_37 ?_
    refine lv_iconst (v := (0 : Int32)) hx hb dX9_step_40 (by decide) ?_
    obtain ⟨b5, h⟩ := q_if h
    refine q_iald (t0 := 0) C0 hw (mN_14 hk) (mE_14 hk) rfl b5 dX9_step_41 ?_
    exact q_iret h C0 hr hlk hw dX9_step_42
  · replace h := q_t h c2
    refine lv_aload_n hx hb dX9_step_12 rfl (lv_at hl 0 rfl) ?_
    refine lv_bipush (v := (-5 : Int32)) hx hb dX9_step_13 (by decide) ?_
    obtain ⟨o6, hco6, h⟩ := q_bind h
    refine q_calli hw (va_runV (As := [.int (-5 : Int32)]) (rest := []) C0 (kX9_refuse hk hco6 _) (cwV 1 hts gX9_step_X9_refuse rfl rfl rfl eX9_refuse ⟨(Nat.le_of_ble_eq_true rfl), (Nat.le_of_ble_eq_true rfl)⟩) ⟨q_blind, q_recv hw (mN_0 hk) (mE_0 hk) rfl, q_pre hw⟩ rfl rfl hl.1 rfl (lv_room (Nat.le_of_ble_eq_true rfl)) dX9_step_15 ⟨Nat.zero_le _, Nat.zero_le _⟩) (fun H locs hw => ?_)
    exact q_iret h C0 hr hlk hw dX9_step_18
-- X9_again again()I
theorem iX9_again_X9 : ∀ w ∈ wsX90, w ∈ wsX9_again := by decide +kernel
set_option maxHeartbeats 4000000 in
set_option maxRecDepth 100000 in
theorem kX9_again {k : Nat} (hk : mB N k) {σ : q_M} {out : Int32 × q_M} (h : fX9_again k σ = some out) : q_Mi l (gM D cI cJ cR ad adK adV N) yX9_again wsX9_again { frames := 2, cells := 0, slots := 0, locals := 45 } [.ref (ad k)] σ out := by
  refine q_Mi_of (cc := cX9_again) (maxL := 2) (ret := (some .int)) (by decide) rfl (Nat.le_of_ble_eq_true rfl) ?_
  intro p e s m below meth c ls C0 hr hlk hl hw
  obtain ⟨hx, hb, hml, hown, hts⟩ := id C0
  replace hl : lv_has ls 2 [(0, .ref (ad k))] := hl
  unfold fX9_again at h
  refine lv_aload_n hx hb dX9_again_0 rfl (lv_at hl 0 rfl) ?_
  refine gt_X9_15 C0 hw hk iX9_again_X9 (by decide +kernel) dX9_again_1 ?_
  refine lv_i2l hx hb dX9_again_4 rfl ?_
  obtain ⟨o1, hco1, h⟩ := q_bind h
  refine q_calli hw (va_runS (As := [.long ((σ.1 k 15).toInt64)]) (rest := []) C0 (kX9_bits hco1 _) (va_cwS 1 hts gX9_again_X9_bits rfl rfl rfl eX9_bits ⟨(Nat.le_of_ble_eq_true rfl), (Nat.le_of_ble_eq_true rfl)⟩) ⟨q_blind, q_pre hw⟩ rfl rfl hl.1 rfl (lv_room (Nat.le_of_ble_eq_true rfl)) dX9_again_5 ⟨Nat.zero_le _, Nat.zero_le _⟩) (fun H locs hw => ?_)
  refine lv_istore_n (lv' := [(1, .int o1.1), (0, .ref (ad k))]) hx hb dX9_again_8 rfl hl (by decide) rfl (fun ls hl => ?_)
  refine lv_aload_n hx hb dX9_again_9 rfl (lv_at hl 1 rfl) ?_
  refine lv_iconst (v := (0 : Int32)) hx hb dX9_again_10 (by decide) ?_
  refine pt_X9_15 C0 hw hk iX9_again_X9 (by decide +kernel) dX9_again_11 (fun σ2 H locs e_σ2 hw => ?_)
  replace h := q_let_at e_σ2 h
  refine lv_iload_n hx hb dX9_again_14 rfl (lv_at hl 0 rfl) ?_
  exact q_iret h C0 hr hlk hw dX9_again_15
-- X9_status status(I)I
theorem iX9_status_X9 : ∀ w ∈ wsX90, w ∈ wsX9_status := by decide +kernel
set_option maxHeartbeats 4000000 in
set_option maxRecDepth 100000 in
theorem tX9_status_c94 {k : Nat} {p1 : Int32} (hk : mB N k) (C0 : CallFix p m c cX9_status 4 s args wsX9_status RX9) (hr : meth.sig.returnType = (some .int)) (hlk : meth.locks = false) {out : Int32 × q_M}  : ∀ n : Nat, ∀ (v2 : Int32) (v3 : Int32) (σ : q_M) (H : Heap) (locs : List Loc) (ls : Array Slot), q_H (gM D cI cJ cR ad adK adV N) (q_A (gM D cI cJ cR ad adK adV N) s.heap.size) s σ H locs → lv_has ls 4 [(0, .ref (ad k)), (2, .int v2), (3, .int v3)] → fX9_status_c94 k p1 n v2 v3 σ = some out → W p l e { frames := 2, cells := 0, slots := 0, locals := 45 } s m args below meth c H locs 0 0 (MQ below (q_Ri (gM D cI cJ cR ad adK adV N) (q_A (gM D cI cJ cR ad adK adV N) s.heap.size) out) args s 0 0 (q_A (gM D cI cJ cR ad adK adV N) s.heap.size)) (F0 m 94 ls []) := by
  obtain ⟨hx, hb, hml, hown, hts⟩ := id C0
  intro n
  induction n with
  | zero =>
    intro v2 v3 σ H locs ls  hw hl h
    cases (show (none : Option (Int32 × q_M)) = some out from h)
  | succ n hrec94 =>
    intro v2 v3 σ H locs ls  hw hl h
    replace h : fX9_status_c94b k p1 (fX9_status_c94 k p1 n) v2 v3 σ = some out := h
    unfold fX9_status_c94b at h
    refine lv_iload_n hx hb dX9_status_94 rfl (lv_at hl 2 rfl) ?_
    refine lv_bipush (v := (8 : Int32)) hx hb dX9_status_95 (by decide) ?_
    refine lv_icmp_ge (tgt := 123) hx hb dX9_status_97 (by decide) (fun c1 => ?_) (fun c1 => ?_)
    · replace h := q_t h c1
      refine lv_iload_n hx hb dX9_status_123 rfl (lv_at hl 1 rfl) ?_
      exact q_iret h C0 hr hlk hw dX9_status_124
    · replace h := q_f h c1
      refine lv_iload_n hx hb dX9_status_100 rfl (lv_at hl 1 rfl) ?_
      refine lv_aload_n hx hb dX9_status_101 rfl (lv_at hl 0 rfl) ?_
      refine gt_X9_0 C0 hw hk iX9_status_X9 (by decide +kernel) dX9_status_102 ?_
      refine lv_iload_n hx hb dX9_status_105 rfl (lv_at hl 2 rfl) ?_
      obtain ⟨b2, h⟩ := q_if h
      refine q_iald (t0 := 0) C0 hw (mN_1 hk) (mE_1 hk) rfl b2 dX9_status_106 ?_
      refine lv_if_eq (tgt := 114) hx hb dX9_status_107 (by decide) (fun c3 => ?_) (fun c3 => ?_)
      · replace h := q_t h c3
        refine lv_iconst (v := (0 : Int32)) hx hb dX9_status_114 (by decide) ?_
        refine lv_iadd hx hb dX9_status_115 ?_
        refine lv_istore_n (lv' := [(2, .int (v2 + (0 : Int32))), (0, .ref (ad k)), (3, .int v3)]) hx hb dX9_status_116 rfl hl (by decide) rfl (fun ls hl => ?_)
        refine lv_iinc (v := (v3 + (1 : Int32))) (lv' := [(3, .int (v3 + (1 : Int32))), (2, .int (v2 + (0 : Int32))), (0, .ref (ad k))]) hx hb dX9_status_117 hl (k := 2) rfl rfl (by decide) rfl (fun ls hl => ?_)
        refine lv_goto (tgt := 94) hx hb dX9_status_120 (by decide) ?_
        exact hrec94 (v2 + (0 : Int32)) (v3 + (1 : Int32)) σ _ _ _ hw (lv_sub hl [2, 1, 0] rfl) h
      · replace h := q_f h c3
        refine lv_iconst (v := (1 : Int32)) hx hb dX9_status_110 (by decide) ?_
        refine lv_goto (tgt := 115) hx hb dX9_status_111 (by decide) ?_
        refine lv_iadd hx hb dX9_status_115 ?_
        refine lv_istore_n (lv' := [(2, .int (v2 + (1 : Int32))), (0, .ref (ad k)), (3, .int v3)]) hx hb dX9_status_116 rfl hl (by decide) rfl (fun ls hl => ?_)
        refine lv_iinc (v := (v3 + (1 : Int32))) (lv' := [(3, .int (v3 + (1 : Int32))), (2, .int (v2 + (1 : Int32))), (0, .ref (ad k))]) hx hb dX9_status_117 hl (k := 2) rfl rfl (by decide) rfl (fun ls hl => ?_)
        refine lv_goto (tgt := 94) hx hb dX9_status_120 (by decide) ?_
        exact hrec94 (v2 + (1 : Int32)) (v3 + (1 : Int32)) σ _ _ _ hw (lv_sub hl [2, 1, 0] rfl) h
set_option maxHeartbeats 4000000 in
set_option maxRecDepth 100000 in
theorem kX9_status {k : Nat} {p1 : Int32} (hk : mB N k) {σ : q_M} {out : Int32 × q_M} (h : fX9_status k p1 σ = some out) : q_Mi l (gM D cI cJ cR ad adK adV N) yX9_status wsX9_status { frames := 2, cells := 0, slots := 0, locals := 45 } [.ref (ad k), .int p1] σ out := by
  refine q_Mi_of (cc := cX9_status) (maxL := 4) (ret := (some .int)) (by decide) rfl (Nat.le_of_ble_eq_true rfl) ?_
  intro p e s m below meth c ls C0 hr hlk hl hw
  obtain ⟨hx, hb, hml, hown, hts⟩ := id C0
  replace hl : lv_has ls 4 [(0, .ref (ad k)), (1, .int p1)] := hl
  unfold fX9_status at h
  refine lv_iload_n hx hb dX9_status_0 rfl (lv_at hl 1 rfl) ?_
  by_cases c1 : p1 = (0 : Int32)
  · replace h := q_t h c1
    refine q_tabIn (off := 47) (tgt := 48) C0 c1 dX9_status_1 (by decide) (by decide) rfl (by decide) ?_
    refine lv_aload_n hx hb dX9_status_48 rfl (lv_at hl 0 rfl) ?_
    refine gt_X9_11 C0 hw hk iX9_status_X9 (by decide +kernel) dX9_status_49 ?_
    exact q_iret h C0 hr hlk hw dX9_status_52
  · replace h := q_f h c1
    by_cases c2 : p1 = (1 : Int32)
    · replace h := q_t h c2
      refine q_tabIn (off := 52) (tgt := 53) C0 c2 dX9_status_1 (by decide) (by decide) rfl (by decide) ?_
      refine lv_aload_n hx hb dX9_status_53 rfl (lv_at hl 0 rfl) ?_
      refine gt_X9_12 C0 hw hk iX9_status_X9 (by decide +kernel) dX9_status_54 ?_
      obtain ⟨o3, hco3, h⟩ := q_bind h
      refine q_calli hw (va_runS (As := [.long (σ.2 k 12)]) (rest := []) C0 (kX9_bits hco3 _) (va_cwS 1 hts gX9_status_X9_bits rfl rfl rfl eX9_bits ⟨(Nat.le_of_ble_eq_true rfl), (Nat.le_of_ble_eq_true rfl)⟩) ⟨q_blind, q_pre hw⟩ rfl rfl hl.1 rfl (lv_room (Nat.le_of_ble_eq_true rfl)) dX9_status_57 ⟨Nat.zero_le _, Nat.zero_le _⟩) (fun H locs hw => ?_)
      exact q_iret h C0 hr hlk hw dX9_status_60
    · replace h := q_f h c2
      by_cases c4 : p1 = (2 : Int32)
      · replace h := q_t h c4
        refine q_tabIn (off := 60) (tgt := 61) C0 c4 dX9_status_1 (by decide) (by decide) rfl (by decide) ?_
        refine lv_aload_n hx hb dX9_status_61 rfl (lv_at hl 0 rfl) ?_
        refine gt_X9_13 C0 hw hk iX9_status_X9 (by decide +kernel) dX9_status_62 ?_
        exact q_iret h C0 hr hlk hw dX9_status_65
      · replace h := q_f h c4
        by_cases c5 : p1 = (3 : Int32)
        · replace h := q_t h c5
          refine q_tabIn (off := 65) (tgt := 66) C0 c5 dX9_status_1 (by decide) (by decide) rfl (by decide) ?_
          refine lv_aload_n hx hb dX9_status_66 rfl (lv_at hl 0 rfl) ?_
          refine gt_X9_15 C0 hw hk iX9_status_X9 (by decide +kernel) dX9_status_67 ?_
          refine lv_i2l hx hb dX9_status_70 rfl ?_
          obtain ⟨o6, hco6, h⟩ := q_bind h
          refine q_calli hw (va_runS (As := [.long ((σ.1 k 15).toInt64)]) (rest := []) C0 (kX9_bits hco6 _) (va_cwS 1 hts gX9_status_X9_bits rfl rfl rfl eX9_bits ⟨(Nat.le_of_ble_eq_true rfl), (Nat.le_of_ble_eq_true rfl)⟩) ⟨q_blind, q_pre hw⟩ rfl rfl hl.1 rfl (lv_room (Nat.le_of_ble_eq_true rfl)) dX9_status_71 ⟨Nat.zero_le _, Nat.zero_le _⟩) (fun H locs hw => ?_)
          exact q_iret h C0 hr hlk hw dX9_status_74
        · replace h := q_f h c5
          by_cases c7 : p1 = (4 : Int32)
          · replace h := q_t h c7
            refine q_tabIn (off := 74) (tgt := 75) C0 c7 dX9_status_1 (by decide) (by decide) rfl (by decide) ?_
            refine lv_aload_n hx hb dX9_status_75 rfl (lv_at hl 0 rfl) ?_
            refine gt_X9_17 C0 hw hk iX9_status_X9 (by decide +kernel) dX9_status_76 ?_
            exact q_iret h C0 hr hlk hw dX9_status_79
          · replace h := q_f h c7
            by_cases c8 : p1 = (5 : Int32)
            · replace h := q_t h c8
              refine q_tabIn (off := 79) (tgt := 80) C0 c8 dX9_status_1 (by decide) (by decide) rfl (by decide) ?_
              refine lv_aload_n hx hb dX9_status_80 rfl (lv_at hl 0 rfl) ?_
              refine gt_X9_18 C0 hw hk iX9_status_X9 (by decide +kernel) dX9_status_81 ?_
              exact q_iret h C0 hr hlk hw dX9_status_84
            · replace h := q_f h c8
              by_cases c9 : p1 = (6 : Int32)
              · replace h := q_t h c9
                refine q_tabIn (off := 84) (tgt := 85) C0 c9 dX9_status_1 (by decide) (by decide) rfl (by decide) ?_
                refine lv_aload_n hx hb dX9_status_85 rfl (lv_at hl 0 rfl) ?_
                refine gt_X9_9 C0 hw hk iX9_status_X9 (by decide +kernel) dX9_status_86 ?_
                exact q_iret h C0 hr hlk hw dX9_status_89
              · replace h := q_f h c9
                by_cases c10 : p1 = (7 : Int32)
                · replace h := q_t h c10
                  refine q_tabIn (off := 89) (tgt := 90) C0 c10 dX9_status_1 (by decide) (by decide) rfl (by decide) ?_
                  refine lv_iconst (v := (0 : Int32)) hx hb dX9_status_90 (by decide) ?_
                  refine lv_istore_n (lv' := [(2, .int (0 : Int32)), (0, .ref (ad k)), (1, .int p1)]) hx hb dX9_status_91 rfl hl (by decide) rfl (fun ls hl => ?_)
                  refine lv_iconst (v := (0 : Int32)) hx hb dX9_status_92 (by decide) ?_
                  refine lv_istore_n (lv' := [(3, .int (0 : Int32)), (2, .int (0 : Int32)), (0, .ref (ad k)), (1, .int p1)]) hx hb dX9_status_93 rfl hl (by decide) rfl (fun ls hl => ?_)
                  exact tX9_status_c94 hk C0 hr hlk q_FU (0 : Int32) (0 : Int32) σ _ _ _ hw (lv_sub hl [2, 1, 0] rfl) h
                · replace h := q_f h c10
                  have n_c1 := q_neI (n := 0) c1 (by decide)
                  have n_c2 := q_neI (n := 1) c2 (by decide)
                  have n_c4 := q_neI (n := 2) c4 (by decide)
                  have n_c5 := q_neI (n := 3) c5 (by decide)
                  have n_c7 := q_neI (n := 4) c7 (by decide)
                  have n_c8 := q_neI (n := 5) c8 (by decide)
                  have n_c9 := q_neI (n := 6) c9 (by decide)
                  have n_c10 := q_neI (n := 7) c10 (by decide)
                  refine lv_tableOut (tgt := 125) hx hb dX9_status_1 (by omega) (by decide) ?_
                  refine lv_iload_n hx hb dX9_status_125 rfl (lv_at hl 1 rfl) ?_
                  refine lv_i2l hx hb dX9_status_126 rfl ?_
                  refine lv_ldc2 (v := (12 : Int64)) hx hb hown (hts (.constantLong RX9 376 (12)) (by decide +kernel)) dX9_status_127 ?_
                  refine lv_ldc2 (v := (16 : Int64)) hx hb hown (hts (.constantLong RX9 378 (16)) (by decide +kernel)) dX9_status_130 ?_
                  obtain ⟨o11, hco11, h⟩ := q_bind h
                  refine q_calli hw (va_runS (As := [.long p1.toInt64, .long (12 : Int64), .long (16 : Int64)]) (rest := []) C0 (kX9_in hco11 _) (va_cwS 3 hts gX9_status_X9_in rfl rfl rfl eX9_in ⟨(Nat.le_of_ble_eq_true rfl), (Nat.le_of_ble_eq_true rfl)⟩) ⟨q_blind, q_pre hw⟩ rfl rfl hl.1 rfl (lv_room (Nat.le_of_ble_eq_true rfl)) dX9_status_133 ⟨Nat.zero_le _, Nat.zero_le _⟩) (fun H locs hw => ?_)
                  refine lv_if_eq (tgt := 151) hx hb dX9_status_136 (by decide) (fun c12 => ?_) (fun c12 => ?_)
                  · replace h := q_t h c12
                    refine lv_iconst (v := (-1 : Int32)) hx hb dX9_status_151 (by decide) ?_
                    exact q_iret h C0 hr hlk hw dX9_status_152
                  · replace h := q_f h c12
                    refine lv_aload_n hx hb dX9_status_139 rfl (lv_at hl 0 rfl) ?_
                    refine gt_X9_10 C0 hw hk iX9_status_X9 (by decide +kernel) dX9_status_140 ?_
                    refine lv_iload_n hx hb dX9_status_143 rfl (lv_at hl 1 rfl) ?_
                    refine lv_bipush (v := (10 : Int32)) hx hb dX9_status_144 (by decide) ?_
                    refine lv_isub hx hb dX9_status_146 ?_
                    obtain ⟨b13, h⟩ := q_if h
                    refine q_iald (t0 := 0) C0 hw (mN_10 hk) (mE_10 hk) rfl b13 dX9_status_147 ?_
                    refine lv_goto (tgt := 152) hx hb dX9_status_148 (by decide) ?_
                    exact q_iret h C0 hr hlk hw dX9_status_152
end
