section
variable {p : Program} {l : Launch} {e : Env} {s : State} {m : MethodId} {args : Array Value} {below : List Frame} {meth : Method} {c : Code} {D : va_G} {cI cJ cS : ClassId} {ad adK adV : Nat → Nat}
-- X2_sumOfShows sumOfShows(J)I
theorem iX2_sumOfShows_X2 : ∀ w ∈ wsX20, w ∈ wsX2_sumOfShows := by decide +kernel
set_option maxHeartbeats 4000000 in
set_option maxRecDepth 100000 in
theorem tX2_sumOfShows_c5 {k : Nat} {p1 : Int64} (hk : xK k = 1) (C0 : CallFix p m c cX2_sumOfShows 5 s args wsX2_sumOfShows RX2) (hr : meth.sig.returnType = (some .int)) (hlk : meth.locks = false) {out : Int32 × q_M}  : ∀ n : Nat, ∀ (v3 : Int32) (v4 : Int32) (σ : q_M) (H : Heap) (locs : List Loc) (ls : Array Slot), q_H (gX D cI cJ cS ad adK adV) (q_A (gX D cI cJ cS ad adK adV) s.heap.size) s σ H locs → lv_has ls 5 [(0, .ref (ad k)), (1, .long p1), (3, .int v3), (4, .int v4)] → fX2_sumOfShows_c5 k p1 n v3 v4 σ = some out → W p l e { frames := 1, cells := 0, slots := 0, locals := 21 } s m args below meth c H locs 0 0 (MQ below (q_Ri (gX D cI cJ cS ad adK adV) (q_A (gX D cI cJ cS ad adK adV) s.heap.size) out) args s 0 0 (q_A (gX D cI cJ cS ad adK adV) s.heap.size)) (F0 m 5 ls []) := by
  obtain ⟨hx, hb, hml, hown, hts⟩ := id C0
  intro n
  induction n with
  | zero =>
    intro v3 v4 σ H locs ls  hw hl h
    cases (show (none : Option (Int32 × q_M)) = some out from h)
  | succ n hrec5 =>
    intro v3 v4 σ H locs ls  hw hl h
    replace h : fX2_sumOfShows_c5b k p1 (fX2_sumOfShows_c5 k p1 n) v3 v4 σ = some out := h
    unfold fX2_sumOfShows_c5b at h
    refine lv_iload hx hb dX2_sumOfShows_5 (lv_at hl 3 rfl) ?_
    refine lv_iconst (v := (4 : Int32)) hx hb dX2_sumOfShows_7 (by decide) ?_
    refine lv_icmp_ge (tgt := 35) hx hb dX2_sumOfShows_8 (by decide) (fun c1 => ?_) (fun c1 => ?_)
    · replace h := q_t h c1
      refine lv_iload_n hx hb dX2_sumOfShows_35 rfl (lv_at hl 2 rfl) ?_
      exact q_iret h C0 hr hlk hw dX2_sumOfShows_36
    · replace h := q_f h c1
      refine lv_iload_n hx hb dX2_sumOfShows_11 rfl (lv_at hl 2 rfl) ?_
      refine lv_lload_n hx hb dX2_sumOfShows_12 rfl (lv_at hl 1 rfl) ?_
      refine lv_aload_n hx hb dX2_sumOfShows_13 rfl (lv_at hl 0 rfl) ?_
      refine gt_X2_7 C0 hw hk iX2_sumOfShows_X2 (by decide +kernel) dX2_sumOfShows_14 ?_
      refine lv_iload hx hb dX2_sumOfShows_17 (lv_at hl 3 rfl) ?_
      obtain ⟨b2, h⟩ := q_if h
      refine q_lald (t0 := 1) C0 hw (xN_7 (xD_1_6 hk)) (xE_7 (xD_1_6 hk)) rfl b2 dX2_sumOfShows_19 ?_
      refine lv_land hx hb dX2_sumOfShows_20 ?_
      obtain ⟨o3, hco3, h⟩ := q_bind h
      refine q_calli hw (va_runS (As := [.long (p1 &&& (σ.2 (k + 6) v4.toNatClampNeg))]) (rest := [.int v3]) C0 (kJ13_bitCount_95d88 hco3 _) (va_cwS 1 hts gX2_sumOfShows_J13_bitCount_95d88 rfl rfl rfl eJ13_bitCount_95d88 ⟨(Nat.le_of_ble_eq_true rfl), (Nat.le_of_ble_eq_true rfl)⟩) ⟨q_blind, q_pre hw⟩ rfl rfl hl.1 rfl (lv_room (Nat.le_of_ble_eq_true rfl)) dX2_sumOfShows_21 ⟨Nat.zero_le _, Nat.zero_le _⟩) (fun H locs hw => ?_)
      refine lv_iload hx hb dX2_sumOfShows_24 (lv_at hl 3 rfl) ?_
      refine q_ishl (v := (q_sl o3.1 v4)) C0 dX2_sumOfShows_26 rfl ?_
      refine lv_iadd hx hb dX2_sumOfShows_27 ?_
      refine lv_istore_n (lv' := [(3, .int (v3 + (q_sl o3.1 v4))), (0, .ref (ad k)), (1, .long p1), (4, .int v4)]) hx hb dX2_sumOfShows_28 rfl hl (by decide) rfl (fun ls hl => ?_)
      refine lv_iinc (v := (v4 + (1 : Int32))) (lv' := [(4, .int (v4 + (1 : Int32))), (3, .int (v3 + (q_sl o3.1 v4))), (0, .ref (ad k)), (1, .long p1)]) hx hb dX2_sumOfShows_29 hl (k := 3) rfl rfl (by decide) rfl (fun ls hl => ?_)
      refine lv_goto (tgt := 5) hx hb dX2_sumOfShows_32 (by decide) ?_
      exact hrec5 (v3 + (q_sl o3.1 v4)) (v4 + (1 : Int32)) o3.2 _ _ _ hw (lv_sub hl [2, 3, 1, 0] rfl) h
set_option maxHeartbeats 4000000 in
set_option maxRecDepth 100000 in
theorem kX2_sumOfShows {k : Nat} {p1 : Int64} (hk : xK k = 1) {σ : q_M} {out : Int32 × q_M} (h : fX2_sumOfShows k p1 σ = some out) : q_Mi l (gX D cI cJ cS ad adK adV) yX2_sumOfShows wsX2_sumOfShows { frames := 1, cells := 0, slots := 0, locals := 21 } [.ref (ad k), .long p1] σ out := by
  refine q_Mi_of (cc := cX2_sumOfShows) (maxL := 5) (ret := (some .int)) (by decide) rfl (Nat.le_of_ble_eq_true rfl) ?_
  intro p e s m below meth c ls C0 hr hlk hl hw
  obtain ⟨hx, hb, hml, hown, hts⟩ := id C0
  replace hl : lv_has ls 5 [(0, .ref (ad k)), (1, .long p1)] := hl
  unfold fX2_sumOfShows at h
  refine lv_iconst (v := (0 : Int32)) hx hb dX2_sumOfShows_0 (by decide) ?_
  refine lv_istore_n (lv' := [(3, .int (0 : Int32)), (0, .ref (ad k)), (1, .long p1)]) hx hb dX2_sumOfShows_1 rfl hl (by decide) rfl (fun ls hl => ?_)
  refine lv_iconst (v := (0 : Int32)) hx hb dX2_sumOfShows_2 (by decide) ?_
  refine lv_istore (lv' := [(4, .int (0 : Int32)), (3, .int (0 : Int32)), (0, .ref (ad k)), (1, .long p1)]) hx hb dX2_sumOfShows_3 hl (by decide) rfl (fun ls hl => ?_)
  exact tX2_sumOfShows_c5 hk C0 hr hlk q_FU (0 : Int32) (0 : Int32) σ _ _ _ hw (lv_sub hl [2, 3, 1, 0] rfl) h
-- X2_addPiece addPiece(J)V
theorem iX2_addPiece_X2 : ∀ w ∈ wsX20, w ∈ wsX2_addPiece := by decide +kernel
set_option maxHeartbeats 4000000 in
set_option maxRecDepth 100000 in
theorem kX2_addPiece {k : Nat} {p1 : Int64} (hk : xK k = 1) {σ : q_M} {out : q_M} (h : fX2_addPiece k p1 σ = some out) : q_Mv l (gX D cI cJ cS ad adK adV) yX2_addPiece wsX2_addPiece { frames := 0, cells := 0, slots := 0, locals := 0 } [.ref (ad k), .long p1] σ out := by
  refine q_Mv_of (cc := cX2_addPiece) (maxL := 3) (ret := none) (by decide) rfl (Nat.le_of_ble_eq_true rfl) ?_
  intro p e s m below meth c ls C0 hr hlk hl hw
  obtain ⟨hx, hb, hml, hown, hts⟩ := id C0
  replace hl : lv_has ls 3 [(0, .ref (ad k)), (1, .long p1)] := hl
  unfold fX2_addPiece at h
  refine lv_aload_n hx hb dX2_addPiece_0 rfl (lv_at hl 0 rfl) ?_
  refine gt_X2_2 C0 hw hk iX2_addPiece_X2 (by decide +kernel) dX2_addPiece_1 ?_
  refine lv_bipush (v := (8 : Int32)) hx hb dX2_addPiece_4 (by decide) ?_
  refine lv_icmp_ge (tgt := 29) hx hb dX2_addPiece_6 (by decide) (fun c1 => ?_) (fun c1 => ?_)
  · replace h := q_t h c1
    exact q_vret h C0 hr hlk hw dX2_addPiece_29
  · replace h := q_f h c1
    refine lv_aload_n hx hb dX2_addPiece_9 rfl (lv_at hl 0 rfl) ?_
    refine gt_X2_6 C0 hw hk iX2_addPiece_X2 (by decide +kernel) dX2_addPiece_10 ?_
    refine lv_aload_n hx hb dX2_addPiece_13 rfl (lv_at hl 0 rfl) ?_
    refine gt_X2_2 C0 hw hk iX2_addPiece_X2 (by decide +kernel) dX2_addPiece_14 ?_
    refine lv_lload_n hx hb dX2_addPiece_17 rfl (lv_at hl 1 rfl) ?_
    obtain ⟨b2, h⟩ := q_if h
    refine q_last (t0 := 1) C0 hw (xN_6 (xD_1_5 hk)) (xE_6 (xD_1_5 hk)) rfl b2 dX2_addPiece_18 (fun σ3 H locs e_σ3 hw => ?_)
    replace h := q_let_at e_σ3 h
    refine lv_aload_n hx hb dX2_addPiece_19 rfl (lv_at hl 0 rfl) ?_
    refine lv_dup hx hb dX2_addPiece_20 rfl ?_
    refine gt_X2_2 C0 hw hk iX2_addPiece_X2 (by decide +kernel) dX2_addPiece_21 ?_
    refine lv_iconst (v := (1 : Int32)) hx hb dX2_addPiece_24 (by decide) ?_
    refine lv_iadd hx hb dX2_addPiece_25 ?_
    refine pt_X2_2 C0 hw hk iX2_addPiece_X2 (by decide +kernel) dX2_addPiece_26 (fun σ4 H locs e_σ4 hw => ?_)
    replace h := q_let_at e_σ4 h
    exact q_vret h C0 hr hlk hw dX2_addPiece_29
-- X2_dropPieces dropPieces()V
theorem iX2_dropPieces_X2 : ∀ w ∈ wsX20, w ∈ wsX2_dropPieces := by decide +kernel
set_option maxHeartbeats 4000000 in
set_option maxRecDepth 100000 in
theorem kX2_dropPieces {k : Nat} (hk : xK k = 1) {σ : q_M} {out : q_M} (h : fX2_dropPieces k σ = some out) : q_Mv l (gX D cI cJ cS ad adK adV) yX2_dropPieces wsX2_dropPieces { frames := 0, cells := 0, slots := 0, locals := 0 } [.ref (ad k)] σ out := by
  refine q_Mv_of (cc := cX2_dropPieces) (maxL := 1) (ret := none) (by decide) rfl (Nat.le_of_ble_eq_true rfl) ?_
  intro p e s m below meth c ls C0 hr hlk hl hw
  obtain ⟨hx, hb, hml, hown, hts⟩ := id C0
  replace hl : lv_has ls 1 [(0, .ref (ad k))] := hl
  unfold fX2_dropPieces at h
  refine lv_aload_n hx hb dX2_dropPieces_0 rfl (lv_at hl 0 rfl) ?_
  refine lv_iconst (v := (0 : Int32)) hx hb dX2_dropPieces_1 (by decide) ?_
  refine pt_X2_2 C0 hw hk iX2_dropPieces_X2 (by decide +kernel) dX2_dropPieces_2 (fun σ1 H locs e_σ1 hw => ?_)
  replace h := q_let_at e_σ1 h
  refine lv_aload_n hx hb dX2_dropPieces_5 rfl (lv_at hl 0 rfl) ?_
  refine lv_iconst (v := (0 : Int32)) hx hb dX2_dropPieces_6 (by decide) ?_
  refine pt_X2_3 C0 hw hk iX2_dropPieces_X2 (by decide +kernel) dX2_dropPieces_7 (fun σ2 H locs e_σ2 hw => ?_)
  replace h := q_let_at e_σ2 h
  exact q_vret h C0 hr hlk hw dX2_dropPieces_10
-- X2_clearTo clearTo(I)V
theorem iX2_clearTo_X0 : ∀ w ∈ wsX00, w ∈ wsX2_clearTo := by decide +kernel
theorem iX2_clearTo_X2 : ∀ w ∈ wsX20, w ∈ wsX2_clearTo := by decide +kernel
theorem eX0_become : yX0_become.cls = RX0 ∧ yX0_become.cls ≠ "java/lang/invoke/MethodHandle" ∧ yX0_become.cls ≠ "java/lang/invoke/VarHandle" ∧ (parseMethodDescriptor yX0_become.desc).map (fun d => d.parameters.length) = some 1 := by decide +kernel
theorem eX2_dropPieces : yX2_dropPieces.cls = RX2 ∧ yX2_dropPieces.cls ≠ "java/lang/invoke/MethodHandle" ∧ yX2_dropPieces.cls ≠ "java/lang/invoke/VarHandle" ∧ (parseMethodDescriptor yX2_dropPieces.desc).map (fun d => d.parameters.length) = some 0 := by decide +kernel
set_option maxHeartbeats 4000000 in
set_option maxRecDepth 100000 in
theorem kX2_clearTo {k : Nat} {p1 : Int32} (hk : xK k = 1) {σ : q_M} {out : q_M} (h : fX2_clearTo k p1 σ = some out) : q_Mv l (gX D cI cJ cS ad adK adV) yX2_clearTo wsX2_clearTo { frames := 2, cells := 0, slots := 0, locals := 50 } [.ref (ad k), .int p1] σ out := by
  refine q_Mv_of (cc := cX2_clearTo) (maxL := 2) (ret := none) (by decide) rfl (Nat.le_of_ble_eq_true rfl) ?_
  intro p e s m below meth c ls C0 hr hlk hl hw
  obtain ⟨hx, hb, hml, hown, hts⟩ := id C0
  replace hl : lv_has ls 2 [(0, .ref (ad k)), (1, .int p1)] := hl
  unfold fX2_clearTo at h
  refine lv_aload_n hx hb dX2_clearTo_0 rfl (lv_at hl 0 rfl) ?_
  refine gt_X2_0 C0 hw hk iX2_clearTo_X2 (by decide +kernel) dX2_clearTo_1 ?_
  refine lv_iload_n hx hb dX2_clearTo_4 rfl (lv_at hl 1 rfl) ?_
  obtain ⟨o1, hco1, h⟩ := q_bind h
  refine q_callv hw (va_runV (As := [.int p1]) (rest := []) C0 (kX0_become (xD_1_1 hk) hco1 _) (cwV 1 hts gX2_clearTo_X0_become rfl rfl rfl eX0_become ⟨(Nat.le_of_ble_eq_true rfl), (Nat.le_of_ble_eq_true rfl)⟩) ⟨q_blind, q_recv hw (xN_2 (xD_1_1 hk)) (xE_2 (xD_1_1 hk)) rfl, q_pre hw⟩ rfl rfl hl.1 rfl (lv_room (Nat.le_of_ble_eq_true rfl)) dX2_clearTo_5 ⟨Nat.zero_le _, Nat.zero_le _⟩) (fun H locs hw => ?_)
  refine lv_aload_n hx hb dX2_clearTo_8 rfl (lv_at hl 0 rfl) ?_
  refine lv_lconst (v := (0 : Int64)) hx hb dX2_clearTo_9 (by decide) ?_
  refine pt_X2_1 C0 hw hk iX2_clearTo_X2 (by decide +kernel) dX2_clearTo_10 (fun σ2 H locs e_σ2 hw => ?_)
  replace h := q_let_at e_σ2 h
  refine lv_aload_n hx hb dX2_clearTo_13 rfl (lv_at hl 0 rfl) ?_
  obtain ⟨o3, hco3, h⟩ := q_bind h
  refine q_callv hw (va_runV (As := []) (rest := []) C0 (kX2_dropPieces hk hco3 _) (cwV 0 hts gX2_clearTo_X2_dropPieces rfl rfl rfl eX2_dropPieces ⟨(Nat.le_of_ble_eq_true rfl), (Nat.le_of_ble_eq_true rfl)⟩) ⟨q_blind, q_recv hw (xN_1 hk) (xE_1 hk) rfl, q_pre hw⟩ rfl rfl hl.1 rfl (lv_room (Nat.le_of_ble_eq_true rfl)) dX2_clearTo_14 ⟨Nat.zero_le _, Nat.zero_le _⟩) (fun H locs hw => ?_)
  refine lv_aload_n hx hb dX2_clearTo_17 rfl (lv_at hl 0 rfl) ?_
  refine gt_X2_7 C0 hw hk iX2_clearTo_X2 (by decide +kernel) dX2_clearTo_18 ?_
  refine lv_lconst (v := (0 : Int64)) hx hb dX2_clearTo_21 (by decide) ?_
  obtain ⟨o4, hco4, h⟩ := q_bind h
  refine q_callv hw (va_runS (As := [.ref (ad (k + 6)), .long (0 : Int64)]) (rest := []) C0 (kJ7_fill_d0a16 (t0 := 1) rfl (xN_7 (xD_1_6 hk)) (xE_7 (xD_1_6 hk)) hco4 _) (va_cwS 2 hts gX2_clearTo_J7_fill_d0a16 rfl rfl rfl eJ7_fill_d0a16 ⟨(Nat.le_of_ble_eq_true rfl), (Nat.le_of_ble_eq_true rfl)⟩) ⟨q_blind, q_pre hw⟩ rfl rfl hl.1 rfl (lv_room (Nat.le_of_ble_eq_true rfl)) dX2_clearTo_22 ⟨Nat.zero_le _, Nat.zero_le _⟩) (fun H locs hw => ?_)
  refine lv_aload_n hx hb dX2_clearTo_25 rfl (lv_at hl 0 rfl) ?_
  refine gt_X2_7 C0 hw hk iX2_clearTo_X2 (by decide +kernel) dX2_clearTo_26 ?_
  refine lv_iconst (v := (0 : Int32)) hx hb dX2_clearTo_29 (by decide) ?_
  refine lv_aload_n hx hb dX2_clearTo_30 rfl (lv_at hl 0 rfl) ?_
  refine gt_X2_0 C0 hw hk iX2_clearTo_X2 (by decide +kernel) dX2_clearTo_31 ?_
  refine gt_X0_2 C0 hw (xD_1_1 hk) iX2_clearTo_X0 (by decide +kernel) dX2_clearTo_34 ?_
  obtain ⟨b5, h⟩ := q_if h
  refine q_last (t0 := 1) C0 hw (xN_7 (xD_1_6 hk)) (xE_7 (xD_1_6 hk)) rfl b5 dX2_clearTo_37 (fun σ6 H locs e_σ6 hw => ?_)
  replace h := q_let_at e_σ6 h
  exact q_vret h C0 hr hlk hw dX2_clearTo_38
-- X2_takeFrom takeFrom(LMouldThatComesOff$Mould;)V
theorem iX2_takeFrom_X0 : ∀ w ∈ wsX00, w ∈ wsX2_takeFrom := by decide +kernel
theorem iX2_takeFrom_X2 : ∀ w ∈ wsX20, w ∈ wsX2_takeFrom := by decide +kernel
set_option maxHeartbeats 4000000 in
set_option maxRecDepth 100000 in
theorem tX2_takeFrom_c31 {k : Nat} {k1 : Nat} (hk : xK k = 1) (hk1 : xK k1 = 1) (C0 : CallFix p m c cX2_takeFrom 2 s args wsX2_takeFrom RX2) (hr : meth.sig.returnType = none) (hlk : meth.locks = false) {out : q_M}  : ∀  (σ : q_M) (H : Heap) (locs : List Loc) (ls : Array Slot), q_H (gX D cI cJ cS ad adK adV) (q_A (gX D cI cJ cS ad adK adV) s.heap.size) s σ H locs → lv_has ls 2 [(0, .ref (ad k)), (1, .ref (ad k1))] → fX2_takeFrom_c31 k k1  σ = some out → W p l e { frames := 2, cells := 0, slots := 0, locals := 50 } s m args below meth c H locs 0 0 (MQ below (q_Rv (gX D cI cJ cS ad adK adV) (q_A (gX D cI cJ cS ad adK adV) s.heap.size) out) args s 0 0 (q_A (gX D cI cJ cS ad adK adV) s.heap.size)) (F0 m 31 ls []) := by
  obtain ⟨hx, hb, hml, hown, hts⟩ := id C0
  intro  σ H locs ls  hw hl h
  unfold fX2_takeFrom_c31 at h
  refine lv_aload_n hx hb dX2_takeFrom_31 rfl (lv_at hl 0 rfl) ?_
  refine lv_aload_n hx hb dX2_takeFrom_32 rfl (lv_at hl 1 rfl) ?_
  refine gt_X2_1 C0 hw hk1 iX2_takeFrom_X2 (by decide +kernel) dX2_takeFrom_33 ?_
  refine pt_X2_1 C0 hw hk iX2_takeFrom_X2 (by decide +kernel) dX2_takeFrom_36 (fun σ1 H locs e_σ1 hw => ?_)
  replace h := q_let_at e_σ1 h
  refine lv_aload_n hx hb dX2_takeFrom_39 rfl (lv_at hl 0 rfl) ?_
  refine lv_aload_n hx hb dX2_takeFrom_40 rfl (lv_at hl 1 rfl) ?_
  refine gt_X2_2 C0 hw hk1 iX2_takeFrom_X2 (by decide +kernel) dX2_takeFrom_41 ?_
  refine pt_X2_2 C0 hw hk iX2_takeFrom_X2 (by decide +kernel) dX2_takeFrom_44 (fun σ2 H locs e_σ2 hw => ?_)
  replace h := q_let_at e_σ2 h
  refine lv_aload_n hx hb dX2_takeFrom_47 rfl (lv_at hl 0 rfl) ?_
  refine lv_aload_n hx hb dX2_takeFrom_48 rfl (lv_at hl 1 rfl) ?_
  refine gt_X2_3 C0 hw hk1 iX2_takeFrom_X2 (by decide +kernel) dX2_takeFrom_49 ?_
  refine pt_X2_3 C0 hw hk iX2_takeFrom_X2 (by decide +kernel) dX2_takeFrom_52 (fun σ3 H locs e_σ3 hw => ?_)
  replace h := q_let_at e_σ3 h
  refine lv_aload_n hx hb dX2_takeFrom_55 rfl (lv_at hl 0 rfl) ?_
  refine lv_aload_n hx hb dX2_takeFrom_56 rfl (lv_at hl 1 rfl) ?_
  refine gt_X2_4 C0 hw hk1 iX2_takeFrom_X2 (by decide +kernel) dX2_takeFrom_57 ?_
  refine pt_X2_4 C0 hw hk iX2_takeFrom_X2 (by decide +kernel) dX2_takeFrom_60 (fun σ4 H locs e_σ4 hw => ?_)
  replace h := q_let_at e_σ4 h
  refine lv_aload_n hx hb dX2_takeFrom_63 rfl (lv_at hl 0 rfl) ?_
  refine lv_aload_n hx hb dX2_takeFrom_64 rfl (lv_at hl 1 rfl) ?_
  refine gt_X2_5 C0 hw hk1 iX2_takeFrom_X2 (by decide +kernel) dX2_takeFrom_65 ?_
  refine pt_X2_5 C0 hw hk iX2_takeFrom_X2 (by decide +kernel) dX2_takeFrom_68 (fun σ5 H locs e_σ5 hw => ?_)
  replace h := q_let_at e_σ5 h
  refine lv_aload_n hx hb dX2_takeFrom_71 rfl (lv_at hl 1 rfl) ?_
  refine gt_X2_6 C0 hw hk1 iX2_takeFrom_X2 (by decide +kernel) dX2_takeFrom_72 ?_
  refine lv_iconst (v := (0 : Int32)) hx hb dX2_takeFrom_75 (by decide) ?_
  refine lv_aload_n hx hb dX2_takeFrom_76 rfl (lv_at hl 0 rfl) ?_
  refine gt_X2_6 C0 hw hk iX2_takeFrom_X2 (by decide +kernel) dX2_takeFrom_77 ?_
  refine lv_iconst (v := (0 : Int32)) hx hb dX2_takeFrom_80 (by decide) ?_
  refine lv_bipush (v := (8 : Int32)) hx hb dX2_takeFrom_81 (by decide) ?_
  obtain ⟨b6, h⟩ := q_if h
  refine q_copyl (t0 := 1) C0 hl.1 hw (hts (.methodLink RX2 61 arraycopyName) (by decide +kernel)) (hts (.native arraycopyName) (by decide +kernel)) (hts (.static arraycopyName) (by decide +kernel)) (hts (.initialized "java/lang/System") (by decide +kernel)) (xN_6 (xD_1_5 hk1)) (xE_6 (xD_1_5 hk1)) (xN_6 (xD_1_5 hk)) (xE_6 (xD_1_5 hk)) rfl b6.1 b6.2.1 b6.2.2.1 b6.2.2.2.1 b6.2.2.2.2 (Nat.le_of_ble_eq_true rfl) (Nat.le_of_ble_eq_true rfl) dX2_takeFrom_83 (fun σ7 H locs e_σ7 hw => ?_)
  replace h := q_let_at e_σ7 h
  refine lv_aload_n hx hb dX2_takeFrom_86 rfl (lv_at hl 1 rfl) ?_
  refine gt_X2_7 C0 hw hk1 iX2_takeFrom_X2 (by decide +kernel) dX2_takeFrom_87 ?_
  refine lv_iconst (v := (0 : Int32)) hx hb dX2_takeFrom_90 (by decide) ?_
  refine lv_aload_n hx hb dX2_takeFrom_91 rfl (lv_at hl 0 rfl) ?_
  refine gt_X2_7 C0 hw hk iX2_takeFrom_X2 (by decide +kernel) dX2_takeFrom_92 ?_
  refine lv_iconst (v := (0 : Int32)) hx hb dX2_takeFrom_95 (by decide) ?_
  refine lv_iconst (v := (4 : Int32)) hx hb dX2_takeFrom_96 (by decide) ?_
  obtain ⟨b8, h⟩ := q_if h
  refine q_copyl (t0 := 1) C0 hl.1 hw (hts (.methodLink RX2 61 arraycopyName) (by decide +kernel)) (hts (.native arraycopyName) (by decide +kernel)) (hts (.static arraycopyName) (by decide +kernel)) (hts (.initialized "java/lang/System") (by decide +kernel)) (xN_7 (xD_1_6 hk1)) (xE_7 (xD_1_6 hk1)) (xN_7 (xD_1_6 hk)) (xE_7 (xD_1_6 hk)) rfl b8.1 b8.2.1 b8.2.2.1 b8.2.2.2.1 b8.2.2.2.2 (Nat.le_of_ble_eq_true rfl) (Nat.le_of_ble_eq_true rfl) dX2_takeFrom_97 (fun σ9 H locs e_σ9 hw => ?_)
  replace h := q_let_at e_σ9 h
  exact q_vret h C0 hr hlk hw dX2_takeFrom_100
set_option maxHeartbeats 4000000 in
set_option maxRecDepth 100000 in
theorem kX2_takeFrom {k : Nat} {k1 : Nat} (hk : xK k = 1) (hk1 : xK k1 = 1) {σ : q_M} {out : q_M} (h : fX2_takeFrom k k1 σ = some out) : q_Mv l (gX D cI cJ cS ad adK adV) yX2_takeFrom wsX2_takeFrom { frames := 2, cells := 0, slots := 0, locals := 50 } [.ref (ad k), .ref (ad k1)] σ out := by
  refine q_Mv_of (cc := cX2_takeFrom) (maxL := 2) (ret := none) (by decide) rfl (Nat.le_of_ble_eq_true rfl) ?_
  intro p e s m below meth c ls C0 hr hlk hl hw
  obtain ⟨hx, hb, hml, hown, hts⟩ := id C0
  replace hl : lv_has ls 2 [(0, .ref (ad k)), (1, .ref (ad k1))] := hl
  unfold fX2_takeFrom at h
  refine lv_aload_n hx hb dX2_takeFrom_0 rfl (lv_at hl 0 rfl) ?_
  refine gt_X2_0 C0 hw hk iX2_takeFrom_X2 (by decide +kernel) dX2_takeFrom_1 ?_
  refine gt_X0_0 C0 hw (xD_1_1 hk) iX2_takeFrom_X0 (by decide +kernel) dX2_takeFrom_4 ?_
  refine lv_aload_n hx hb dX2_takeFrom_7 rfl (lv_at hl 1 rfl) ?_
  refine gt_X2_0 C0 hw hk1 iX2_takeFrom_X2 (by decide +kernel) dX2_takeFrom_8 ?_
  refine gt_X0_0 C0 hw (xD_1_1 hk1) iX2_takeFrom_X0 (by decide +kernel) dX2_takeFrom_11 ?_
  refine lv_icmp_eq (tgt := 31) hx hb dX2_takeFrom_14 (by decide) (fun c1 => ?_) (fun c1 => ?_)
  · replace h := q_t h c1
    exact tX2_takeFrom_c31 hk hk1 C0 hr hlk σ _ _ _ hw (lv_sub hl [0, 1] rfl) h
  · replace h := q_f h c1
    refine lv_aload_n hx hb dX2_takeFrom_17 rfl (lv_at hl 0 rfl) ?_
    refine gt_X2_0 C0 hw hk iX2_takeFrom_X2 (by decide +kernel) dX2_takeFrom_18 ?_
    refine lv_aload_n hx hb dX2_takeFrom_21 rfl (lv_at hl 1 rfl) ?_
    refine gt_X2_0 C0 hw hk1 iX2_takeFrom_X2 (by decide +kernel) dX2_takeFrom_22 ?_
    refine gt_X0_0 C0 hw (xD_1_1 hk1) iX2_takeFrom_X0 (by decide +kernel) dX2_takeFrom_25 ?_
    obtain ⟨o2, hco2, h⟩ := q_bind h
    refine q_callv hw (va_runV (As := [.int (σ.1 (k1 + 1) 0)]) (rest := []) C0 (kX0_become (xD_1_1 hk) hco2 _) (cwV 1 hts gX2_takeFrom_X0_become rfl rfl rfl eX0_become ⟨(Nat.le_of_ble_eq_true rfl), (Nat.le_of_ble_eq_true rfl)⟩) ⟨q_blind, q_recv hw (xN_2 (xD_1_1 hk)) (xE_2 (xD_1_1 hk)) rfl, q_pre hw⟩ rfl rfl hl.1 rfl (lv_room (Nat.le_of_ble_eq_true rfl)) dX2_takeFrom_28 ⟨Nat.zero_le _, Nat.zero_le _⟩) (fun H locs hw => ?_)
    exact tX2_takeFrom_c31 hk hk1 C0 hr hlk o2 _ _ _ hw (lv_sub hl [0, 1] rfl) h
-- X2_fillLast fillLast(J)V
theorem iX2_fillLast_X2 : ∀ w ∈ wsX20, w ∈ wsX2_fillLast := by decide +kernel
set_option maxHeartbeats 4000000 in
set_option maxRecDepth 100000 in
theorem kX2_fillLast {k : Nat} {p1 : Int64} (hk : xK k = 1) {σ : q_M} {out : q_M} (h : fX2_fillLast k p1 σ = some out) : q_Mv l (gX D cI cJ cS ad adK adV) yX2_fillLast wsX2_fillLast { frames := 0, cells := 0, slots := 0, locals := 0 } [.ref (ad k), .long p1] σ out := by
  refine q_Mv_of (cc := cX2_fillLast) (maxL := 3) (ret := none) (by decide) rfl (Nat.le_of_ble_eq_true rfl) ?_
  intro p e s m below meth c ls C0 hr hlk hl hw
  obtain ⟨hx, hb, hml, hown, hts⟩ := id C0
  replace hl : lv_has ls 3 [(0, .ref (ad k)), (1, .long p1)] := hl
  unfold fX2_fillLast at h
  refine lv_aload_n hx hb dX2_fillLast_0 rfl (lv_at hl 0 rfl) ?_
  refine gt_X2_2 C0 hw hk iX2_fillLast_X2 (by decide +kernel) dX2_fillLast_1 ?_
  refine lv_if_le (tgt := 22) hx hb dX2_fillLast_4 (by decide) (fun c1 => ?_) (fun c1 => ?_)
  · replace h := q_t h c1
    exact q_vret h C0 hr hlk hw dX2_fillLast_22
  · replace h := q_f h c1
    refine lv_aload_n hx hb dX2_fillLast_7 rfl (lv_at hl 0 rfl) ?_
    refine gt_X2_6 C0 hw hk iX2_fillLast_X2 (by decide +kernel) dX2_fillLast_8 ?_
    refine lv_aload_n hx hb dX2_fillLast_11 rfl (lv_at hl 0 rfl) ?_
    refine gt_X2_2 C0 hw hk iX2_fillLast_X2 (by decide +kernel) dX2_fillLast_12 ?_
    refine lv_iconst (v := (1 : Int32)) hx hb dX2_fillLast_15 (by decide) ?_
    refine lv_isub hx hb dX2_fillLast_16 ?_
    refine lv_dup2_11 hx hb dX2_fillLast_17 rfl rfl ?_
    obtain ⟨b2, h⟩ := q_if h
    refine q_lald (t0 := 1) C0 hw (xN_6 (xD_1_5 hk)) (xE_6 (xD_1_5 hk)) rfl b2 dX2_fillLast_18 ?_
    refine lv_lload_n hx hb dX2_fillLast_19 rfl (lv_at hl 1 rfl) ?_
    refine lv_lor hx hb dX2_fillLast_20 ?_
    obtain ⟨b3, h⟩ := q_if h
    refine q_last (t0 := 1) C0 hw (xN_6 (xD_1_5 hk)) (xE_6 (xD_1_5 hk)) rfl b3 dX2_fillLast_21 (fun σ4 H locs e_σ4 hw => ?_)
    replace h := q_let_at e_σ4 h
    exact q_vret h C0 hr hlk hw dX2_fillLast_22
-- X2_isOff isOff(I)Z
theorem iX2_isOff_X2 : ∀ w ∈ wsX20, w ∈ wsX2_isOff := by decide +kernel
set_option maxHeartbeats 4000000 in
set_option maxRecDepth 100000 in
theorem kX2_isOff {k : Nat} {p1 : Int32} (hk : xK k = 1) {σ : q_M} {out : Int32 × q_M} (h : fX2_isOff k p1 σ = some out) : q_Mi l (gX D cI cJ cS ad adK adV) yX2_isOff wsX2_isOff { frames := 0, cells := 0, slots := 0, locals := 0 } [.ref (ad k), .int p1] σ out := by
  refine q_Mi_of (cc := cX2_isOff) (maxL := 2) (ret := (some .boolean)) (by decide) rfl (Nat.le_of_ble_eq_true rfl) ?_
  intro p e s m below meth c ls C0 hr hlk hl hw
  obtain ⟨hx, hb, hml, hown, hts⟩ := id C0
  replace hl : lv_has ls 2 [(0, .ref (ad k)), (1, .int p1)] := hl
  unfold fX2_isOff at h
  refine lv_aload_n hx hb dX2_isOff_0 rfl (lv_at hl 0 rfl) ?_
  refine gt_X2_3 C0 hw hk iX2_isOff_X2 (by decide +kernel) dX2_isOff_1 ?_
  refine lv_iload_n hx hb dX2_isOff_4 rfl (lv_at hl 1 rfl) ?_
  refine q_ishr (v := (q_sr (σ.1 k 3) p1)) C0 dX2_isOff_5 rfl ?_
  refine lv_iconst (v := (1 : Int32)) hx hb dX2_isOff_6 (by decide) ?_
  refine lv_iand hx hb dX2_isOff_7 ?_
  refine lv_if_eq (tgt := 15) hx hb dX2_isOff_8 (by decide) (fun c1 => ?_) (fun c1 => ?_)
  · replace h := q_t h c1
    refine lv_iconst (v := (0 : Int32)) hx hb dX2_isOff_15 (by decide) ?_
    exact q_zret h C0 hr rfl hlk hw dX2_isOff_16
  · replace h := q_f h c1
    refine lv_iconst (v := (1 : Int32)) hx hb dX2_isOff_11 (by decide) ?_
    refine lv_goto (tgt := 16) hx hb dX2_isOff_12 (by decide) ?_
    exact q_zret h C0 hr rfl hlk hw dX2_isOff_16
-- X2_emptyCubes emptyCubes()J
theorem iX2_emptyCubes_X0 : ∀ w ∈ wsX00, w ∈ wsX2_emptyCubes := by decide +kernel
theorem iX2_emptyCubes_X2 : ∀ w ∈ wsX20, w ∈ wsX2_emptyCubes := by decide +kernel
set_option maxHeartbeats 4000000 in
set_option maxRecDepth 100000 in
theorem kX2_emptyCubes {k : Nat} (hk : xK k = 1) {σ : q_M} {out : Int64 × q_M} (h : fX2_emptyCubes k σ = some out) : q_Ml l (gX D cI cJ cS ad adK adV) yX2_emptyCubes wsX2_emptyCubes { frames := 0, cells := 0, slots := 0, locals := 0 } [.ref (ad k)] σ out := by
  refine q_Ml_of (cc := cX2_emptyCubes) (maxL := 1) (ret := (some .long)) (by decide) rfl (Nat.le_of_ble_eq_true rfl) ?_
  intro p e s m below meth c ls C0 hr hlk hl hw
  obtain ⟨hx, hb, hml, hown, hts⟩ := id C0
  replace hl : lv_has ls 1 [(0, .ref (ad k))] := hl
  unfold fX2_emptyCubes at h
  refine lv_aload_n hx hb dX2_emptyCubes_0 rfl (lv_at hl 0 rfl) ?_
  refine gt_X2_0 C0 hw hk iX2_emptyCubes_X2 (by decide +kernel) dX2_emptyCubes_1 ?_
  refine gt_X0_2 C0 hw (xD_1_1 hk) iX2_emptyCubes_X0 (by decide +kernel) dX2_emptyCubes_4 ?_
  refine lv_aload_n hx hb dX2_emptyCubes_7 rfl (lv_at hl 0 rfl) ?_
  refine gt_X2_1 C0 hw hk iX2_emptyCubes_X2 (by decide +kernel) dX2_emptyCubes_8 ?_
  refine lv_ldc2 (v := (-1 : Int64)) hx hb hown (hts (.constantLong RX2 67 (-1)) (by decide +kernel)) dX2_emptyCubes_11 ?_
  refine lv_lxor hx hb dX2_emptyCubes_14 ?_
  refine lv_land hx hb dX2_emptyCubes_15 ?_
  exact q_lret h C0 hr hlk hw dX2_emptyCubes_16
-- X2_inPieces inPieces(I)J
theorem iX2_inPieces_X2 : ∀ w ∈ wsX20, w ∈ wsX2_inPieces := by decide +kernel
set_option maxHeartbeats 4000000 in
set_option maxRecDepth 100000 in
theorem tX2_inPieces_c5 {k : Nat} {p1 : Int32} (hk : xK k = 1) (C0 : CallFix p m c cX2_inPieces 5 s args wsX2_inPieces RX2) (hr : meth.sig.returnType = (some .long)) (hlk : meth.locks = false) {out : Int64 × q_M}  : ∀ n : Nat, ∀ (v2 : Int64) (v4 : Int32) (σ : q_M) (H : Heap) (locs : List Loc) (ls : Array Slot), q_H (gX D cI cJ cS ad adK adV) (q_A (gX D cI cJ cS ad adK adV) s.heap.size) s σ H locs → lv_has ls 5 [(0, .ref (ad k)), (1, .int p1), (2, .long v2), (4, .int v4)] → fX2_inPieces_c5 k p1 n v2 v4 σ = some out → W p l e { frames := 0, cells := 0, slots := 0, locals := 0 } s m args below meth c H locs 0 0 (MQ below (q_Rl (gX D cI cJ cS ad adK adV) (q_A (gX D cI cJ cS ad adK adV) s.heap.size) out) args s 0 0 (q_A (gX D cI cJ cS ad adK adV) s.heap.size)) (F0 m 5 ls []) := by
  obtain ⟨hx, hb, hml, hown, hts⟩ := id C0
  intro n
  induction n with
  | zero =>
    intro v2 v4 σ H locs ls  hw hl h
    cases (show (none : Option (Int64 × q_M)) = some out from h)
  | succ n hrec5 =>
    intro v2 v4 σ H locs ls  hw hl h
    replace h : fX2_inPieces_c5b k p1 (fX2_inPieces_c5 k p1 n) v2 v4 σ = some out := h
    unfold fX2_inPieces_c5b at h
    refine lv_iload hx hb dX2_inPieces_5 (lv_at hl 3 rfl) ?_
    refine lv_aload_n hx hb dX2_inPieces_7 rfl (lv_at hl 0 rfl) ?_
    refine gt_X2_2 C0 hw hk iX2_inPieces_X2 (by decide +kernel) dX2_inPieces_8 ?_
    refine lv_icmp_ge (tgt := 39) hx hb dX2_inPieces_11 (by decide) (fun c1 => ?_) (fun c1 => ?_)
    · replace h := q_t h c1
      refine lv_lload_n hx hb dX2_inPieces_39 rfl (lv_at hl 2 rfl) ?_
      exact q_lret h C0 hr hlk hw dX2_inPieces_40
    · replace h := q_f h c1
      refine lv_iload_n hx hb dX2_inPieces_14 rfl (lv_at hl 1 rfl) ?_
      refine lv_iload hx hb dX2_inPieces_15 (lv_at hl 3 rfl) ?_
      refine q_ishr (v := (q_sr p1 v4)) C0 dX2_inPieces_17 rfl ?_
      refine lv_iconst (v := (1 : Int32)) hx hb dX2_inPieces_18 (by decide) ?_
      refine lv_iand hx hb dX2_inPieces_19 ?_
      refine lv_if_ne (tgt := 33) hx hb dX2_inPieces_20 (by decide) (fun c2 => ?_) (fun c2 => ?_)
      · replace h := q_f h c2
        refine lv_iinc (v := (v4 + (1 : Int32))) (lv' := [(4, .int (v4 + (1 : Int32))), (0, .ref (ad k)), (1, .int p1), (2, .long v2)]) hx hb dX2_inPieces_33 hl (k := 3) rfl rfl (by decide) rfl (fun ls hl => ?_)
        refine lv_goto (tgt := 5) hx hb dX2_inPieces_36 (by decide) ?_
        exact hrec5 v2 (v4 + (1 : Int32)) σ _ _ _ hw (lv_sub hl [1, 2, 3, 0] rfl) h
      · replace h := q_t h c2
        refine lv_lload_n hx hb dX2_inPieces_23 rfl (lv_at hl 2 rfl) ?_
        refine lv_aload_n hx hb dX2_inPieces_24 rfl (lv_at hl 0 rfl) ?_
        refine gt_X2_6 C0 hw hk iX2_inPieces_X2 (by decide +kernel) dX2_inPieces_25 ?_
        refine lv_iload hx hb dX2_inPieces_28 (lv_at hl 3 rfl) ?_
        obtain ⟨b3, h⟩ := q_if h
        refine q_lald (t0 := 1) C0 hw (xN_6 (xD_1_5 hk)) (xE_6 (xD_1_5 hk)) rfl b3 dX2_inPieces_30 ?_
        refine lv_lor hx hb dX2_inPieces_31 ?_
        refine lv_topl (fun x4 e_x4 => ?_)
        replace h := q_let_at e_x4 h
        refine lv_lstore_n (lv' := [(2, .long x4), (0, .ref (ad k)), (1, .int p1), (4, .int v4)]) hx hb dX2_inPieces_32 rfl hl (by decide) rfl (fun ls hl => ?_)
        refine lv_iinc (v := (v4 + (1 : Int32))) (lv' := [(4, .int (v4 + (1 : Int32))), (2, .long x4), (0, .ref (ad k)), (1, .int p1)]) hx hb dX2_inPieces_33 hl (k := 3) rfl rfl (by decide) rfl (fun ls hl => ?_)
        refine lv_goto (tgt := 5) hx hb dX2_inPieces_36 (by decide) ?_
        exact hrec5 x4 (v4 + (1 : Int32)) σ _ _ _ hw (lv_sub hl [2, 3, 1, 0] rfl) h
set_option maxHeartbeats 4000000 in
set_option maxRecDepth 100000 in
theorem kX2_inPieces {k : Nat} {p1 : Int32} (hk : xK k = 1) {σ : q_M} {out : Int64 × q_M} (h : fX2_inPieces k p1 σ = some out) : q_Ml l (gX D cI cJ cS ad adK adV) yX2_inPieces wsX2_inPieces { frames := 0, cells := 0, slots := 0, locals := 0 } [.ref (ad k), .int p1] σ out := by
  refine q_Ml_of (cc := cX2_inPieces) (maxL := 5) (ret := (some .long)) (by decide) rfl (Nat.le_of_ble_eq_true rfl) ?_
  intro p e s m below meth c ls C0 hr hlk hl hw
  obtain ⟨hx, hb, hml, hown, hts⟩ := id C0
  replace hl : lv_has ls 5 [(0, .ref (ad k)), (1, .int p1)] := hl
  unfold fX2_inPieces at h
  refine lv_lconst (v := (0 : Int64)) hx hb dX2_inPieces_0 (by decide) ?_
  refine lv_lstore_n (lv' := [(2, .long (0 : Int64)), (0, .ref (ad k)), (1, .int p1)]) hx hb dX2_inPieces_1 rfl hl (by decide) rfl (fun ls hl => ?_)
  refine lv_iconst (v := (0 : Int32)) hx hb dX2_inPieces_2 (by decide) ?_
  refine lv_istore (lv' := [(4, .int (0 : Int32)), (2, .long (0 : Int64)), (0, .ref (ad k)), (1, .int p1)]) hx hb dX2_inPieces_3 hl (by decide) rfl (fun ls hl => ?_)
  exact tX2_inPieces_c5 hk C0 hr hlk q_FU (0 : Int64) (0 : Int32) σ _ _ _ hw (lv_sub hl [2, 3, 1, 0] rfl) h
-- X2_showsOf showsOf(I)I
theorem eX2_sumOfShows : yX2_sumOfShows.cls = RX2 ∧ yX2_sumOfShows.cls ≠ "java/lang/invoke/MethodHandle" ∧ yX2_sumOfShows.cls ≠ "java/lang/invoke/VarHandle" ∧ (parseMethodDescriptor yX2_sumOfShows.desc).map (fun d => d.parameters.length) = some 1 := by decide +kernel
set_option maxHeartbeats 4000000 in
set_option maxRecDepth 100000 in
theorem kX2_showsOf {k : Nat} {p1 : Int32} (hk : xK k = 1) {σ : q_M} {out : Int32 × q_M} (h : fX2_showsOf k p1 σ = some out) : q_Mi l (gX D cI cJ cS ad adK adV) yX2_showsOf wsX2_showsOf { frames := 2, cells := 0, slots := 0, locals := 45 } [.ref (ad k), .int p1] σ out := by
  refine q_Mi_of (cc := cX2_showsOf) (maxL := 2) (ret := (some .int)) (by decide) rfl (Nat.le_of_ble_eq_true rfl) ?_
  intro p e s m below meth c ls C0 hr hlk hl hw
  obtain ⟨hx, hb, hml, hown, hts⟩ := id C0
  replace hl : lv_has ls 2 [(0, .ref (ad k)), (1, .int p1)] := hl
  unfold fX2_showsOf at h
  refine lv_aload_n hx hb dX2_showsOf_0 rfl (lv_at hl 0 rfl) ?_
  refine lv_lconst (v := (1 : Int64)) hx hb dX2_showsOf_1 (by decide) ?_
  refine lv_iload_n hx hb dX2_showsOf_2 rfl (lv_at hl 1 rfl) ?_
  refine lv_lshl (v := (q_shl (1 : Int64) p1)) hx hb dX2_showsOf_3 rfl ?_
  obtain ⟨o1, hco1, h⟩ := q_bind h
  refine q_calli hw (va_runV (As := [.long (q_shl (1 : Int64) p1)]) (rest := []) C0 (kX2_sumOfShows hk hco1 _) (cwV 1 hts gX2_showsOf_X2_sumOfShows rfl rfl rfl eX2_sumOfShows ⟨(Nat.le_of_ble_eq_true rfl), (Nat.le_of_ble_eq_true rfl)⟩) ⟨q_blind, q_recv hw (xN_1 hk) (xE_1 hk) rfl, q_pre hw⟩ rfl rfl hl.1 rfl (lv_room (Nat.le_of_ble_eq_true rfl)) dX2_showsOf_4 ⟨Nat.zero_le _, Nat.zero_le _⟩) (fun H locs hw => ?_)
  exact q_iret h C0 hr hlk hw dX2_showsOf_7
-- X2_putShows putShows(II)V
theorem iX2_putShows_X2 : ∀ w ∈ wsX20, w ∈ wsX2_putShows := by decide +kernel
set_option maxHeartbeats 4000000 in
set_option maxRecDepth 100000 in
theorem tX2_putShows_c7 {k : Nat} {p1 : Int32} {p2 : Int32} (hk : xK k = 1) (C0 : CallFix p m c cX2_putShows 6 s args wsX2_putShows RX2) (hr : meth.sig.returnType = none) (hlk : meth.locks = false) {out : q_M}  : ∀ n : Nat, ∀ (v3 : Int64) (v5 : Int32) (σ : q_M) (H : Heap) (locs : List Loc) (ls : Array Slot), q_H (gX D cI cJ cS ad adK adV) (q_A (gX D cI cJ cS ad adK adV) s.heap.size) s σ H locs → lv_has ls 6 [(0, .ref (ad k)), (2, .int p2), (3, .long v3), (5, .int v5)] → fX2_putShows_c7 k p1 p2 n v3 v5 σ = some out → W p l e { frames := 0, cells := 0, slots := 0, locals := 0 } s m args below meth c H locs 0 0 (MQ below (q_Rv (gX D cI cJ cS ad adK adV) (q_A (gX D cI cJ cS ad adK adV) s.heap.size) out) args s 0 0 (q_A (gX D cI cJ cS ad adK adV) s.heap.size)) (F0 m 7 ls []) := by
  obtain ⟨hx, hb, hml, hown, hts⟩ := id C0
  intro n
  induction n with
  | zero =>
    intro v3 v5 σ H locs ls  hw hl h
    cases (show (none : Option (q_M)) = some out from h)
  | succ n hrec7 =>
    intro v3 v5 σ H locs ls  hw hl h
    replace h : fX2_putShows_c7b k p1 p2 (fX2_putShows_c7 k p1 p2 n) v3 v5 σ = some out := h
    unfold fX2_putShows_c7b at h
    refine lv_iload hx hb dX2_putShows_7 (lv_at hl 3 rfl) ?_
    refine lv_iconst (v := (4 : Int32)) hx hb dX2_putShows_9 (by decide) ?_
    refine lv_icmp_ge (tgt := 60) hx hb dX2_putShows_10 (by decide) (fun c1 => ?_) (fun c1 => ?_)
    · replace h := q_t h c1
      exact q_vret h C0 hr hlk hw dX2_putShows_60
    · replace h := q_f h c1
      refine lv_aload_n hx hb dX2_putShows_13 rfl (lv_at hl 0 rfl) ?_
      refine gt_X2_7 C0 hw hk iX2_putShows_X2 (by decide +kernel) dX2_putShows_14 ?_
      refine lv_iload hx hb dX2_putShows_17 (lv_at hl 3 rfl) ?_
      refine lv_iload_n hx hb dX2_putShows_19 rfl (lv_at hl 1 rfl) ?_
      refine lv_iload hx hb dX2_putShows_20 (lv_at hl 3 rfl) ?_
      refine q_ishr (v := (q_sr p2 v5)) C0 dX2_putShows_22 rfl ?_
      refine lv_iconst (v := (1 : Int32)) hx hb dX2_putShows_23 (by decide) ?_
      refine lv_iand hx hb dX2_putShows_24 ?_
      refine lv_if_eq (tgt := 40) hx hb dX2_putShows_25 (by decide) (fun c2 => ?_) (fun c2 => ?_)
      · replace h := q_t h c2
        refine lv_aload_n hx hb dX2_putShows_40 rfl (lv_at hl 0 rfl) ?_
        refine gt_X2_7 C0 hw hk iX2_putShows_X2 (by decide +kernel) dX2_putShows_41 ?_
        refine lv_iload hx hb dX2_putShows_44 (lv_at hl 3 rfl) ?_
        obtain ⟨b3, h⟩ := q_if h
        refine q_lald (t0 := 1) C0 hw (xN_7 (xD_1_6 hk)) (xE_7 (xD_1_6 hk)) rfl b3 dX2_putShows_46 ?_
        refine lv_lload_n hx hb dX2_putShows_47 rfl (lv_at hl 2 rfl) ?_
        refine lv_ldc2 (v := (-1 : Int64)) hx hb hown (hts (.constantLong RX2 67 (-1)) (by decide +kernel)) dX2_putShows_48 ?_
        refine lv_lxor hx hb dX2_putShows_51 ?_
        refine lv_land hx hb dX2_putShows_52 ?_
        obtain ⟨b4, h⟩ := q_if h
        refine q_last (t0 := 1) C0 hw (xN_7 (xD_1_6 hk)) (xE_7 (xD_1_6 hk)) rfl b4 dX2_putShows_53 (fun σ5 H locs e_σ5 hw => ?_)
        replace h := q_let_at e_σ5 h
        refine lv_iinc (v := (v5 + (1 : Int32))) (lv' := [(5, .int (v5 + (1 : Int32))), (0, .ref (ad k)), (2, .int p2), (3, .long v3)]) hx hb dX2_putShows_54 hl (k := 3) rfl rfl (by decide) rfl (fun ls hl => ?_)
        refine lv_goto (tgt := 7) hx hb dX2_putShows_57 (by decide) ?_
        exact hrec7 v3 (v5 + (1 : Int32)) σ5 _ _ _ hw (lv_sub hl [1, 2, 3, 0] rfl) h
      · replace h := q_f h c2
        refine lv_aload_n hx hb dX2_putShows_28 rfl (lv_at hl 0 rfl) ?_
        refine gt_X2_7 C0 hw hk iX2_putShows_X2 (by decide +kernel) dX2_putShows_29 ?_
        refine lv_iload hx hb dX2_putShows_32 (lv_at hl 3 rfl) ?_
        obtain ⟨b6, h⟩ := q_if h
        refine q_lald (t0 := 1) C0 hw (xN_7 (xD_1_6 hk)) (xE_7 (xD_1_6 hk)) rfl b6 dX2_putShows_34 ?_
        refine lv_lload_n hx hb dX2_putShows_35 rfl (lv_at hl 2 rfl) ?_
        refine lv_lor hx hb dX2_putShows_36 ?_
        refine lv_goto (tgt := 53) hx hb dX2_putShows_37 (by decide) ?_
        obtain ⟨b7, h⟩ := q_if h
        refine q_last (t0 := 1) C0 hw (xN_7 (xD_1_6 hk)) (xE_7 (xD_1_6 hk)) rfl b7 dX2_putShows_53 (fun σ8 H locs e_σ8 hw => ?_)
        replace h := q_let_at e_σ8 h
        refine lv_iinc (v := (v5 + (1 : Int32))) (lv' := [(5, .int (v5 + (1 : Int32))), (0, .ref (ad k)), (2, .int p2), (3, .long v3)]) hx hb dX2_putShows_54 hl (k := 3) rfl rfl (by decide) rfl (fun ls hl => ?_)
        refine lv_goto (tgt := 7) hx hb dX2_putShows_57 (by decide) ?_
        exact hrec7 v3 (v5 + (1 : Int32)) σ8 _ _ _ hw (lv_sub hl [1, 2, 3, 0] rfl) h
set_option maxHeartbeats 4000000 in
set_option maxRecDepth 100000 in
theorem kX2_putShows {k : Nat} {p1 : Int32} {p2 : Int32} (hk : xK k = 1) {σ : q_M} {out : q_M} (h : fX2_putShows k p1 p2 σ = some out) : q_Mv l (gX D cI cJ cS ad adK adV) yX2_putShows wsX2_putShows { frames := 0, cells := 0, slots := 0, locals := 0 } [.ref (ad k), .int p1, .int p2] σ out := by
  refine q_Mv_of (cc := cX2_putShows) (maxL := 6) (ret := none) (by decide) rfl (Nat.le_of_ble_eq_true rfl) ?_
  intro p e s m below meth c ls C0 hr hlk hl hw
  obtain ⟨hx, hb, hml, hown, hts⟩ := id C0
  replace hl : lv_has ls 6 [(0, .ref (ad k)), (1, .int p1), (2, .int p2)] := hl
  unfold fX2_putShows at h
  refine lv_lconst (v := (1 : Int64)) hx hb dX2_putShows_0 (by decide) ?_
  refine lv_iload_n hx hb dX2_putShows_1 rfl (lv_at hl 1 rfl) ?_
  refine lv_lshl (v := (q_shl (1 : Int64) p1)) hx hb dX2_putShows_2 rfl ?_
  refine lv_lstore_n (lv' := [(3, .long (q_shl (1 : Int64) p1)), (0, .ref (ad k)), (1, .int p1), (2, .int p2)]) hx hb dX2_putShows_3 rfl hl (by decide) rfl (fun ls hl => ?_)
  refine lv_iconst (v := (0 : Int32)) hx hb dX2_putShows_4 (by decide) ?_
  refine lv_istore (lv' := [(5, .int (0 : Int32)), (3, .long (q_shl (1 : Int64) p1)), (0, .ref (ad k)), (1, .int p1), (2, .int p2)]) hx hb dX2_putShows_5 hl (by decide) rfl (fun ls hl => ?_)
  exact tX2_putShows_c7 hk C0 hr hlk q_FU (q_shl (1 : Int64) p1) (0 : Int32) σ _ _ _ hw (lv_sub hl [2, 4, 1, 0] rfl) h
-- X2_firstBareCube firstBareCube()I
theorem iX2_firstBareCube_X2 : ∀ w ∈ wsX20, w ∈ wsX2_firstBareCube := by decide +kernel
theorem eX2_emptyCubes : yX2_emptyCubes.cls = RX2 ∧ yX2_emptyCubes.cls ≠ "java/lang/invoke/MethodHandle" ∧ yX2_emptyCubes.cls ≠ "java/lang/invoke/VarHandle" ∧ (parseMethodDescriptor yX2_emptyCubes.desc).map (fun d => d.parameters.length) = some 0 := by decide +kernel
theorem eX2_inPieces : yX2_inPieces.cls = RX2 ∧ yX2_inPieces.cls ≠ "java/lang/invoke/MethodHandle" ∧ yX2_inPieces.cls ≠ "java/lang/invoke/VarHandle" ∧ (parseMethodDescriptor yX2_inPieces.desc).map (fun d => d.parameters.length) = some 1 := by decide +kernel
set_option maxHeartbeats 4000000 in
set_option maxRecDepth 100000 in
theorem kX2_firstBareCube {k : Nat} (hk : xK k = 1) {σ : q_M} {out : Int32 × q_M} (h : fX2_firstBareCube k σ = some out) : q_Mi l (gX D cI cJ cS ad adK adV) yX2_firstBareCube wsX2_firstBareCube { frames := 1, cells := 0, slots := 0, locals := 24 } [.ref (ad k)] σ out := by
  refine q_Mi_of (cc := cX2_firstBareCube) (maxL := 3) (ret := (some .int)) (by decide) rfl (Nat.le_of_ble_eq_true rfl) ?_
  intro p e s m below meth c ls C0 hr hlk hl hw
  obtain ⟨hx, hb, hml, hown, hts⟩ := id C0
  replace hl : lv_has ls 3 [(0, .ref (ad k))] := hl
  unfold fX2_firstBareCube at h
  refine lv_aload_n hx hb dX2_firstBareCube_0 rfl (lv_at hl 0 rfl) ?_
  obtain ⟨o1, hco1, h⟩ := q_bind h
  refine q_calll hw (va_runV (As := []) (rest := []) C0 (kX2_emptyCubes hk hco1 _) (cwV 0 hts gX2_firstBareCube_X2_emptyCubes rfl rfl rfl eX2_emptyCubes ⟨(Nat.le_of_ble_eq_true rfl), (Nat.le_of_ble_eq_true rfl)⟩) ⟨q_blind, q_recv hw (xN_1 hk) (xE_1 hk) rfl, q_pre hw⟩ rfl rfl hl.1 rfl (lv_room (Nat.le_of_ble_eq_true rfl)) dX2_firstBareCube_1 ⟨Nat.zero_le _, Nat.zero_le _⟩) (fun H locs hw => ?_)
  refine lv_aload_n hx hb dX2_firstBareCube_4 rfl (lv_at hl 0 rfl) ?_
  refine lv_iconst (v := (0 : Int32)) hx hb dX2_firstBareCube_5 (by decide) ?_
  obtain ⟨o2, hco2, h⟩ := q_bind h
  refine q_calll hw (va_runV (As := [.int (0 : Int32)]) (rest := [.long o1.1]) C0 (kX2_inPieces hk hco2 _) (cwV 1 hts gX2_firstBareCube_X2_inPieces rfl rfl rfl eX2_inPieces ⟨(Nat.le_of_ble_eq_true rfl), (Nat.le_of_ble_eq_true rfl)⟩) ⟨q_blind, q_recv hw (xN_1 hk) (xE_1 hk) rfl, q_pre hw⟩ rfl rfl hl.1 rfl (lv_room (Nat.le_of_ble_eq_true rfl)) dX2_firstBareCube_6 ⟨Nat.zero_le _, Nat.zero_le _⟩) (fun H locs hw => ?_)
  refine lv_ldc2 (v := (-1 : Int64)) hx hb hown (hts (.constantLong RX2 67 (-1)) (by decide +kernel)) dX2_firstBareCube_9 ?_
  refine lv_lxor hx hb dX2_firstBareCube_12 ?_
  refine lv_land hx hb dX2_firstBareCube_13 ?_
  refine lv_topl (fun x3 e_x3 => ?_)
  replace h := q_let_at e_x3 h
  refine lv_lstore_n (lv' := [(1, .long x3), (0, .ref (ad k))]) hx hb dX2_firstBareCube_14 rfl hl (by decide) rfl (fun ls hl => ?_)
  refine lv_aload_n hx hb dX2_firstBareCube_15 rfl (lv_at hl 1 rfl) ?_
  refine gt_X2_3 C0 hw hk iX2_firstBareCube_X2 (by decide +kernel) dX2_firstBareCube_16 ?_
  refine lv_if_ne (tgt := 28) hx hb dX2_firstBareCube_19 (by decide) (fun c4 => ?_) (fun c4 => ?_)
  · replace h := q_f h c4
    refine lv_iconst (v := (-1 : Int32)) hx hb dX2_firstBareCube_28 (by decide) ?_
    exact q_iret h C0 hr hlk hw dX2_firstBareCube_29
  · replace h := q_t h c4
    refine lv_lload_n hx hb dX2_firstBareCube_22 rfl (lv_at hl 0 rfl) ?_
    refine lv_lconst (v := (0 : Int64)) hx hb dX2_firstBareCube_23 (by decide) ?_
    refine q_lcmp_ne (tgt := 30) C0 dX2_firstBareCube_24 dX2_firstBareCube_25 (by decide) (fun c5 => ?_) (fun c5 => ?_)
    · replace h := q_f h c5
      refine lv_lload_n hx hb dX2_firstBareCube_30 rfl (lv_at hl 0 rfl) ?_
      refine lv_lload_n hx hb dX2_firstBareCube_31 rfl (lv_at hl 0 rfl) ?_
      refine lv_lneg hx hb dX2_firstBareCube_32 ?_
      refine lv_land hx hb dX2_firstBareCube_33 ?_
      refine lv_lconst (v := (1 : Int64)) hx hb dX2_firstBareCube_34 (by decide) ?_
      refine lv_lsub hx hb dX2_firstBareCube_35 ?_
      obtain ⟨o6, hco6, h⟩ := q_bind h
      refine q_calli hw (va_runS (As := [.long ((x3 &&& (-x3)) - (1 : Int64))]) (rest := []) C0 (kJ13_bitCount_95d88 hco6 _) (va_cwS 1 hts gX2_firstBareCube_J13_bitCount_95d88 rfl rfl rfl eJ13_bitCount_95d88 ⟨(Nat.le_of_ble_eq_true rfl), (Nat.le_of_ble_eq_true rfl)⟩) ⟨q_blind, q_pre hw⟩ rfl rfl hl.1 rfl (lv_room (Nat.le_of_ble_eq_true rfl)) dX2_firstBareCube_36 ⟨Nat.zero_le _, Nat.zero_le _⟩) (fun H locs hw => ?_)
      exact q_iret h C0 hr hlk hw dX2_firstBareCube_39
    · replace h := q_t h c5
      refine lv_iconst (v := (-1 : Int32)) hx hb dX2_firstBareCube_28 (by decide) ?_
      exact q_iret h C0 hr hlk hw dX2_firstBareCube_29
-- X2_isWrong isWrong(II)Z
theorem iX2_isWrong_X2 : ∀ w ∈ wsX20, w ∈ wsX2_isWrong := by decide +kernel
theorem eX0_isOnePart : yX0_isOnePart.cls = RX0 ∧ yX0_isOnePart.cls ≠ "java/lang/invoke/MethodHandle" ∧ yX0_isOnePart.cls ≠ "java/lang/invoke/VarHandle" ∧ (parseMethodDescriptor yX0_isOnePart.desc).map (fun d => d.parameters.length) = some 1 := by decide +kernel
set_option maxHeartbeats 4000000 in
set_option maxRecDepth 100000 in
theorem kX2_isWrong {k : Nat} {p1 : Int32} {p2 : Int32} (hk : xK k = 1) {σ : q_M} {out : Int32 × q_M} (h : fX2_isWrong k p1 p2 σ = some out) : q_Mi l (gX D cI cJ cS ad adK adV) yX2_isWrong wsX2_isWrong { frames := 4, cells := 0, slots := 0, locals := 102 } [.ref (ad k), .int p1, .int p2] σ out := by
  refine q_Mi_of (cc := cX2_isWrong) (maxL := 5) (ret := (some .boolean)) (by decide) rfl (Nat.le_of_ble_eq_true rfl) ?_
  intro p e s m below meth c ls C0 hr hlk hl hw
  obtain ⟨hx, hb, hml, hown, hts⟩ := id C0
  replace hl : lv_has ls 5 [(0, .ref (ad k)), (1, .int p1), (2, .int p2)] := hl
  unfold fX2_isWrong at h
  refine lv_aload_n hx hb dX2_isWrong_0 rfl (lv_at hl 0 rfl) ?_
  refine gt_X2_6 C0 hw hk iX2_isWrong_X2 (by decide +kernel) dX2_isWrong_1 ?_
  refine lv_iload_n hx hb dX2_isWrong_4 rfl (lv_at hl 2 rfl) ?_
  obtain ⟨b1, h⟩ := q_if h
  refine q_lald (t0 := 1) C0 hw (xN_6 (xD_1_5 hk)) (xE_6 (xD_1_5 hk)) rfl b1 dX2_isWrong_5 ?_
  refine lv_topl (fun x2 e_x2 => ?_)
  replace h := q_let_at e_x2 h
  refine lv_lstore_n (lv' := [(3, .long x2), (0, .ref (ad k)), (1, .int p1), (2, .int p2)]) hx hb dX2_isWrong_6 rfl hl (by decide) rfl (fun ls hl => ?_)
  refine lv_iload_n hx hb dX2_isWrong_7 rfl (lv_at hl 2 rfl) ?_
  by_cases c3 : p1 = (1 : Int32)
  · replace h := q_t h c3
    refine q_tabIn (off := 28) (tgt := 36) C0 c3 dX2_isWrong_8 (by decide) (by decide) rfl (by decide) ?_
    refine lv_lload_n hx hb dX2_isWrong_36 rfl (lv_at hl 0 rfl) ?_
    refine lv_aload_n hx hb dX2_isWrong_37 rfl (lv_at hl 1 rfl) ?_
    refine gt_X2_1 C0 hw hk iX2_isWrong_X2 (by decide +kernel) dX2_isWrong_38 ?_
    refine lv_land hx hb dX2_isWrong_41 ?_
    refine lv_lconst (v := (0 : Int64)) hx hb dX2_isWrong_42 (by decide) ?_
    refine q_lcmp_eq (tgt := 51) C0 dX2_isWrong_43 dX2_isWrong_44 (by decide) (fun c4 => ?_) (fun c4 => ?_)
    · replace h := q_t h c4
      refine lv_iconst (v := (0 : Int32)) hx hb dX2_isWrong_51 (by decide) ?_
      exact q_zret h C0 hr rfl hlk hw dX2_isWrong_52
    · replace h := q_f h c4
      refine lv_iconst (v := (1 : Int32)) hx hb dX2_isWrong_47 (by decide) ?_
      refine lv_goto (tgt := 52) hx hb dX2_isWrong_48 (by decide) ?_
      exact q_zret h C0 hr rfl hlk hw dX2_isWrong_52
  · replace h := q_f h c3
    by_cases c5 : p1 = (2 : Int32)
    · replace h := q_t h c5
      refine q_tabIn (off := 45) (tgt := 53) C0 c5 dX2_isWrong_8 (by decide) (by decide) rfl (by decide) ?_
      refine lv_lload_n hx hb dX2_isWrong_53 rfl (lv_at hl 0 rfl) ?_
      refine lv_aload_n hx hb dX2_isWrong_54 rfl (lv_at hl 1 rfl) ?_
      refine lv_aload_n hx hb dX2_isWrong_55 rfl (lv_at hl 1 rfl) ?_
      refine gt_X2_3 C0 hw hk iX2_isWrong_X2 (by decide +kernel) dX2_isWrong_56 ?_
      refine lv_iconst (v := (-1 : Int32)) hx hb dX2_isWrong_59 (by decide) ?_
      refine lv_iload_n hx hb dX2_isWrong_60 rfl (lv_at hl 3 rfl) ?_
      refine q_ishl (v := (q_sl (-1 : Int32) p2)) C0 dX2_isWrong_61 rfl ?_
      refine lv_ior hx hb dX2_isWrong_62 ?_
      obtain ⟨o6, hco6, h⟩ := q_bind h
      refine q_calll hw (va_runV (As := [.int ((σ.1 k 3) ||| (q_sl (-1 : Int32) p2))]) (rest := [.long x2]) C0 (kX2_inPieces hk hco6 _) (cwV 1 hts gX2_isWrong_X2_inPieces rfl rfl rfl eX2_inPieces ⟨(Nat.le_of_ble_eq_true rfl), (Nat.le_of_ble_eq_true rfl)⟩) ⟨q_blind, q_recv hw (xN_1 hk) (xE_1 hk) rfl, q_pre hw⟩ rfl rfl hl.1 rfl (lv_room (Nat.le_of_ble_eq_true rfl)) dX2_isWrong_63 ⟨Nat.zero_le _, Nat.zero_le _⟩) (fun H locs hw => ?_)
      refine lv_land hx hb dX2_isWrong_66 ?_
      refine lv_lconst (v := (0 : Int64)) hx hb dX2_isWrong_67 (by decide) ?_
      refine q_lcmp_eq (tgt := 76) C0 dX2_isWrong_68 dX2_isWrong_69 (by decide) (fun c7 => ?_) (fun c7 => ?_)
      · replace h := q_t h c7
        refine lv_iconst (v := (0 : Int32)) hx hb dX2_isWrong_76 (by decide) ?_
        exact q_zret h C0 hr rfl hlk hw dX2_isWrong_77
      · replace h := q_f h c7
        refine lv_iconst (v := (1 : Int32)) hx hb dX2_isWrong_72 (by decide) ?_
        refine lv_goto (tgt := 77) hx hb dX2_isWrong_73 (by decide) ?_
        exact q_zret h C0 hr rfl hlk hw dX2_isWrong_77
    · replace h := q_f h c5
      by_cases c8 : p1 = (3 : Int32)
      · replace h := q_t h c8
        refine q_tabIn (off := 70) (tgt := 78) C0 c8 dX2_isWrong_8 (by decide) (by decide) rfl (by decide) ?_
        refine lv_lload_n hx hb dX2_isWrong_78 rfl (lv_at hl 0 rfl) ?_
        refine lv_lconst (v := (0 : Int64)) hx hb dX2_isWrong_79 (by decide) ?_
        refine q_lcmp_eq (tgt := 95) C0 dX2_isWrong_80 dX2_isWrong_81 (by decide) (fun c9 => ?_) (fun c9 => ?_)
        · replace h := q_t h c9
          refine lv_iconst (v := (1 : Int32)) hx hb dX2_isWrong_95 (by decide) ?_
          refine lv_goto (tgt := 100) hx hb dX2_isWrong_96 (by decide) ?_
          exact q_zret h C0 hr rfl hlk hw dX2_isWrong_100
        · replace h := q_f h c9
          refine lv_aload_n hx hb dX2_isWrong_84 rfl (lv_at hl 1 rfl) ?_
          refine gt_X2_0 C0 hw hk iX2_isWrong_X2 (by decide +kernel) dX2_isWrong_85 ?_
          refine lv_lload_n hx hb dX2_isWrong_88 rfl (lv_at hl 0 rfl) ?_
          obtain ⟨o10, hco10, h⟩ := q_bind h
          refine q_calli hw (va_runV (As := [.long x2]) (rest := []) C0 (kX0_isOnePart (xD_1_1 hk) hco10 _) (cwV 1 hts gX2_isWrong_X0_isOnePart rfl rfl rfl eX0_isOnePart ⟨(Nat.le_of_ble_eq_true rfl), (Nat.le_of_ble_eq_true rfl)⟩) ⟨q_blind, q_recv hw (xN_2 (xD_1_1 hk)) (xE_2 (xD_1_1 hk)) rfl, q_pre hw⟩ rfl rfl hl.1 rfl (lv_room (Nat.le_of_ble_eq_true rfl)) dX2_isWrong_89 ⟨Nat.zero_le _, Nat.zero_le _⟩) (fun H locs hw => ?_)
          refine lv_if_ne (tgt := 99) hx hb dX2_isWrong_92 (by decide) (fun c11 => ?_) (fun c11 => ?_)
          · replace h := q_f h c11
            refine lv_iconst (v := (0 : Int32)) hx hb dX2_isWrong_99 (by decide) ?_
            exact q_zret h C0 hr rfl hlk hw dX2_isWrong_100
          · replace h := q_t h c11
            refine lv_iconst (v := (1 : Int32)) hx hb dX2_isWrong_95 (by decide) ?_
            refine lv_goto (tgt := 100) hx hb dX2_isWrong_96 (by decide) ?_
            exact q_zret h C0 hr rfl hlk hw dX2_isWrong_100
      · replace h := q_f h c8
        have n_c3 := q_neI (n := 1) c3 (by decide)
        have n_c5 := q_neI (n := 2) c5 (by decide)
        have n_c8 := q_neI (n := 3) c8 (by decide)
        refine lv_tableOut (tgt := 101) hx hb dX2_isWrong_8 (by omega) (by decide) ?_
        refine lv_lload_n hx hb dX2_isWrong_101 rfl (lv_at hl 0 rfl) ?_
        obtain ⟨o12, hco12, h⟩ := q_bind h
        refine q_calli hw (va_runS (As := [.long x2]) (rest := []) C0 (kJ13_bitCount_95d88 hco12 _) (va_cwS 1 hts gX2_isWrong_J13_bitCount_95d88 rfl rfl rfl eJ13_bitCount_95d88 ⟨(Nat.le_of_ble_eq_true rfl), (Nat.le_of_ble_eq_true rfl)⟩) ⟨q_blind, q_pre hw⟩ rfl rfl hl.1 rfl (lv_room (Nat.le_of_ble_eq_true rfl)) dX2_isWrong_102 ⟨Nat.zero_le _, Nat.zero_le _⟩) (fun H locs hw => ?_)
        refine lv_aload_n hx hb dX2_isWrong_105 rfl (lv_at hl 1 rfl) ?_
        refine gt_X2_4 C0 hw hk iX2_isWrong_X2 (by decide +kernel) dX2_isWrong_106 ?_
        refine lv_icmp_le (tgt := 116) hx hb dX2_isWrong_109 (by decide) (fun c13 => ?_) (fun c13 => ?_)
        · replace h := q_t h c13
          refine lv_iconst (v := (0 : Int32)) hx hb dX2_isWrong_116 (by decide) ?_
          exact q_zret h C0 hr rfl hlk hw dX2_isWrong_117
        · replace h := q_f h c13
          refine lv_iconst (v := (1 : Int32)) hx hb dX2_isWrong_112 (by decide) ?_
          refine lv_goto (tgt := 117) hx hb dX2_isWrong_113 (by decide) ?_
          exact q_zret h C0 hr rfl hlk hw dX2_isWrong_117
-- X2_wrongPlace wrongPlace(I)I
theorem iX2_wrongPlace_X2 : ∀ w ∈ wsX20, w ∈ wsX2_wrongPlace := by decide +kernel
theorem eX2_firstBareCube : yX2_firstBareCube.cls = RX2 ∧ yX2_firstBareCube.cls ≠ "java/lang/invoke/MethodHandle" ∧ yX2_firstBareCube.cls ≠ "java/lang/invoke/VarHandle" ∧ (parseMethodDescriptor yX2_firstBareCube.desc).map (fun d => d.parameters.length) = some 0 := by decide +kernel
theorem eX2_isOff : yX2_isOff.cls = RX2 ∧ yX2_isOff.cls ≠ "java/lang/invoke/MethodHandle" ∧ yX2_isOff.cls ≠ "java/lang/invoke/VarHandle" ∧ (parseMethodDescriptor yX2_isOff.desc).map (fun d => d.parameters.length) = some 1 := by decide +kernel
theorem eX2_isWrong : yX2_isWrong.cls = RX2 ∧ yX2_isWrong.cls ≠ "java/lang/invoke/MethodHandle" ∧ yX2_isWrong.cls ≠ "java/lang/invoke/VarHandle" ∧ (parseMethodDescriptor yX2_isWrong.desc).map (fun d => d.parameters.length) = some 2 := by decide +kernel
set_option maxHeartbeats 4000000 in
set_option maxRecDepth 100000 in
theorem tX2_wrongPlace_c12 {k : Nat} {p1 : Int32} (hk : xK k = 1) (C0 : CallFix p m c cX2_wrongPlace 3 s args wsX2_wrongPlace RX2) (hr : meth.sig.returnType = (some .int)) (hlk : meth.locks = false) {out : Int32 × q_M}  : ∀ n : Nat, ∀ (v2 : Int32) (σ : q_M) (H : Heap) (locs : List Loc) (ls : Array Slot), q_H (gX D cI cJ cS ad adK adV) (q_A (gX D cI cJ cS ad adK adV) s.heap.size) s σ H locs → lv_has ls 3 [(0, .ref (ad k)), (1, .int p1), (2, .int v2)] → fX2_wrongPlace_c12 k p1 n v2 σ = some out → W p l e { frames := 5, cells := 0, slots := 0, locals := 126 } s m args below meth c H locs 0 0 (MQ below (q_Ri (gX D cI cJ cS ad adK adV) (q_A (gX D cI cJ cS ad adK adV) s.heap.size) out) args s 0 0 (q_A (gX D cI cJ cS ad adK adV) s.heap.size)) (F0 m 12 ls []) := by
  obtain ⟨hx, hb, hml, hown, hts⟩ := id C0
  intro n
  induction n with
  | zero =>
    intro v2 σ H locs ls  hw hl h
    cases (show (none : Option (Int32 × q_M)) = some out from h)
  | succ n hrec12 =>
    intro v2 σ H locs ls  hw hl h
    replace h : fX2_wrongPlace_c12b k p1 (fX2_wrongPlace_c12 k p1 n) v2 σ = some out := h
    unfold fX2_wrongPlace_c12b at h
    refine lv_iload_n hx hb dX2_wrongPlace_12 rfl (lv_at hl 2 rfl) ?_
    refine lv_aload_n hx hb dX2_wrongPlace_13 rfl (lv_at hl 0 rfl) ?_
    refine gt_X2_2 C0 hw hk iX2_wrongPlace_X2 (by decide +kernel) dX2_wrongPlace_14 ?_
    refine lv_icmp_ge (tgt := 45) hx hb dX2_wrongPlace_17 (by decide) (fun c1 => ?_) (fun c1 => ?_)
    · replace h := q_t h c1
      refine lv_iconst (v := (-1 : Int32)) hx hb dX2_wrongPlace_45 (by decide) ?_
      exact q_iret h C0 hr hlk hw dX2_wrongPlace_46
    · replace h := q_f h c1
      refine lv_aload_n hx hb dX2_wrongPlace_20 rfl (lv_at hl 0 rfl) ?_
      refine lv_iload_n hx hb dX2_wrongPlace_21 rfl (lv_at hl 2 rfl) ?_
      obtain ⟨o2, hco2, h⟩ := q_bind h
      refine q_calli hw (va_runV (As := [.int v2]) (rest := []) C0 (kX2_isOff hk hco2 _) (cwV 1 hts gX2_wrongPlace_X2_isOff rfl rfl rfl eX2_isOff ⟨(Nat.le_of_ble_eq_true rfl), (Nat.le_of_ble_eq_true rfl)⟩) ⟨q_blind, q_recv hw (xN_1 hk) (xE_1 hk) rfl, q_pre hw⟩ rfl rfl hl.1 rfl (lv_room (Nat.le_of_ble_eq_true rfl)) dX2_wrongPlace_22 ⟨Nat.zero_le _, Nat.zero_le _⟩) (fun H locs hw => ?_)
      refine lv_if_ne (tgt := 39) hx hb dX2_wrongPlace_25 (by decide) (fun c3 => ?_) (fun c3 => ?_)
      · replace h := q_f h c3
        refine lv_iinc (v := (v2 + (1 : Int32))) (lv' := [(2, .int (v2 + (1 : Int32))), (0, .ref (ad k)), (1, .int p1)]) hx hb dX2_wrongPlace_39 hl (k := 2) rfl rfl (by decide) rfl (fun ls hl => ?_)
        refine lv_goto (tgt := 12) hx hb dX2_wrongPlace_42 (by decide) ?_
        exact hrec12 (v2 + (1 : Int32)) o2.2 _ _ _ hw (lv_sub hl [1, 2, 0] rfl) h
      · replace h := q_t h c3
        refine lv_aload_n hx hb dX2_wrongPlace_28 rfl (lv_at hl 0 rfl) ?_
        refine lv_iload_n hx hb dX2_wrongPlace_29 rfl (lv_at hl 1 rfl) ?_
        refine lv_iload_n hx hb dX2_wrongPlace_30 rfl (lv_at hl 2 rfl) ?_
        obtain ⟨o4, hco4, h⟩ := q_bind h
        refine q_calli hw (va_runV (As := [.int p1, .int v2]) (rest := []) C0 (kX2_isWrong hk hco4 _) (cwV 2 hts gX2_wrongPlace_X2_isWrong rfl rfl rfl eX2_isWrong ⟨(Nat.le_of_ble_eq_true rfl), (Nat.le_of_ble_eq_true rfl)⟩) ⟨q_blind, q_recv hw (xN_1 hk) (xE_1 hk) rfl, q_pre hw⟩ rfl rfl hl.1 rfl (lv_room (Nat.le_of_ble_eq_true rfl)) dX2_wrongPlace_31 ⟨Nat.zero_le _, Nat.zero_le _⟩) (fun H locs hw => ?_)
        refine lv_if_eq (tgt := 39) hx hb dX2_wrongPlace_34 (by decide) (fun c5 => ?_) (fun c5 => ?_)
        · replace h := q_t h c5
          refine lv_iinc (v := (v2 + (1 : Int32))) (lv' := [(2, .int (v2 + (1 : Int32))), (0, .ref (ad k)), (1, .int p1)]) hx hb dX2_wrongPlace_39 hl (k := 2) rfl rfl (by decide) rfl (fun ls hl => ?_)
          refine lv_goto (tgt := 12) hx hb dX2_wrongPlace_42 (by decide) ?_
          exact hrec12 (v2 + (1 : Int32)) o4.2 _ _ _ hw (lv_sub hl [1, 2, 0] rfl) h
        · replace h := q_f h c5
          refine lv_iload_n hx hb dX2_wrongPlace_37 rfl (lv_at hl 2 rfl) ?_
          exact q_iret h C0 hr hlk hw dX2_wrongPlace_38
set_option maxHeartbeats 4000000 in
set_option maxRecDepth 100000 in
theorem kX2_wrongPlace {k : Nat} {p1 : Int32} (hk : xK k = 1) {σ : q_M} {out : Int32 × q_M} (h : fX2_wrongPlace k p1 σ = some out) : q_Mi l (gX D cI cJ cS ad adK adV) yX2_wrongPlace wsX2_wrongPlace { frames := 5, cells := 0, slots := 0, locals := 126 } [.ref (ad k), .int p1] σ out := by
  refine q_Mi_of (cc := cX2_wrongPlace) (maxL := 3) (ret := (some .int)) (by decide) rfl (Nat.le_of_ble_eq_true rfl) ?_
  intro p e s m below meth c ls C0 hr hlk hl hw
  obtain ⟨hx, hb, hml, hown, hts⟩ := id C0
  replace hl : lv_has ls 3 [(0, .ref (ad k)), (1, .int p1)] := hl
  unfold fX2_wrongPlace at h
  refine lv_iload_n hx hb dX2_wrongPlace_0 rfl (lv_at hl 1 rfl) ?_
  refine lv_iconst (v := (5 : Int32)) hx hb dX2_wrongPlace_1 (by decide) ?_
  refine lv_icmp_ne (tgt := 10) hx hb dX2_wrongPlace_2 (by decide) (fun c1 => ?_) (fun c1 => ?_)
  · replace h := q_f h c1
    refine lv_iconst (v := (0 : Int32)) hx hb dX2_wrongPlace_10 (by decide) ?_
    refine lv_istore_n (lv' := [(2, .int (0 : Int32)), (0, .ref (ad k)), (1, .int p1)]) hx hb dX2_wrongPlace_11 rfl hl (by decide) rfl (fun ls hl => ?_)
    exact tX2_wrongPlace_c12 hk C0 hr hlk q_FU (0 : Int32) σ _ _ _ hw (lv_sub hl [1, 2, 0] rfl) h
  · replace h := q_t h c1
    refine lv_aload_n hx hb dX2_wrongPlace_5 rfl (lv_at hl 0 rfl) ?_
    obtain ⟨o2, hco2, h⟩ := q_bind h
    refine q_calli hw (va_runV (As := []) (rest := []) C0 (kX2_firstBareCube hk hco2 _) (cwV 0 hts gX2_wrongPlace_X2_firstBareCube rfl rfl rfl eX2_firstBareCube ⟨(Nat.le_of_ble_eq_true rfl), (Nat.le_of_ble_eq_true rfl)⟩) ⟨q_blind, q_recv hw (xN_1 hk) (xE_1 hk) rfl, q_pre hw⟩ rfl rfl hl.1 rfl (lv_room (Nat.le_of_ble_eq_true rfl)) dX2_wrongPlace_6 ⟨Nat.zero_le _, Nat.zero_le _⟩) (fun H locs hw => ?_)
    exact q_iret h C0 hr hlk hw dX2_wrongPlace_9
-- X2_spareBeside spareBeside(I)J
theorem iX2_spareBeside_X2 : ∀ w ∈ wsX20, w ∈ wsX2_spareBeside := by decide +kernel
set_option maxHeartbeats 4000000 in
set_option maxRecDepth 100000 in
theorem kX2_spareBeside {k : Nat} {p1 : Int32} (hk : xK k = 1) {σ : q_M} {out : Int64 × q_M} (h : fX2_spareBeside k p1 σ = some out) : q_Ml l (gX D cI cJ cS ad adK adV) yX2_spareBeside wsX2_spareBeside { frames := 2, cells := 0, slots := 0, locals := 51 } [.ref (ad k), .int p1] σ out := by
  refine q_Ml_of (cc := cX2_spareBeside) (maxL := 2) (ret := (some .long)) (by decide) rfl (Nat.le_of_ble_eq_true rfl) ?_
  intro p e s m below meth c ls C0 hr hlk hl hw
  obtain ⟨hx, hb, hml, hown, hts⟩ := id C0
  replace hl : lv_has ls 2 [(0, .ref (ad k)), (1, .int p1)] := hl
  unfold fX2_spareBeside at h
  refine lv_aload_n hx hb dX2_spareBeside_0 rfl (lv_at hl 0 rfl) ?_
  refine gt_X2_0 C0 hw hk iX2_spareBeside_X2 (by decide +kernel) dX2_spareBeside_1 ?_
  refine lv_aload_n hx hb dX2_spareBeside_4 rfl (lv_at hl 0 rfl) ?_
  refine gt_X2_6 C0 hw hk iX2_spareBeside_X2 (by decide +kernel) dX2_spareBeside_5 ?_
  refine lv_iload_n hx hb dX2_spareBeside_8 rfl (lv_at hl 1 rfl) ?_
  obtain ⟨b1, h⟩ := q_if h
  refine q_lald (t0 := 1) C0 hw (xN_6 (xD_1_5 hk)) (xE_6 (xD_1_5 hk)) rfl b1 dX2_spareBeside_9 ?_
  obtain ⟨o2, hco2, h⟩ := q_bind h
  refine q_calll hw (va_runV (As := [.long (σ.2 (k + 5) p1.toNatClampNeg)]) (rest := []) C0 (kX0_beside (xD_1_1 hk) hco2 _) (cwV 1 hts gX2_spareBeside_X0_beside rfl rfl rfl eX0_beside ⟨(Nat.le_of_ble_eq_true rfl), (Nat.le_of_ble_eq_true rfl)⟩) ⟨q_blind, q_recv hw (xN_2 (xD_1_1 hk)) (xE_2 (xD_1_1 hk)) rfl, q_pre hw⟩ rfl rfl hl.1 rfl (lv_room (Nat.le_of_ble_eq_true rfl)) dX2_spareBeside_10 ⟨Nat.zero_le _, Nat.zero_le _⟩) (fun H locs hw => ?_)
  refine lv_aload_n hx hb dX2_spareBeside_13 rfl (lv_at hl 0 rfl) ?_
  obtain ⟨o3, hco3, h⟩ := q_bind h
  refine q_calll hw (va_runV (As := []) (rest := [.long o2.1]) C0 (kX2_emptyCubes hk hco3 _) (cwV 0 hts gX2_spareBeside_X2_emptyCubes rfl rfl rfl eX2_emptyCubes ⟨(Nat.le_of_ble_eq_true rfl), (Nat.le_of_ble_eq_true rfl)⟩) ⟨q_blind, q_recv hw (xN_1 hk) (xE_1 hk) rfl, q_pre hw⟩ rfl rfl hl.1 rfl (lv_room (Nat.le_of_ble_eq_true rfl)) dX2_spareBeside_14 ⟨Nat.zero_le _, Nat.zero_le _⟩) (fun H locs hw => ?_)
  refine lv_land hx hb dX2_spareBeside_17 ?_
  refine lv_aload_n hx hb dX2_spareBeside_18 rfl (lv_at hl 0 rfl) ?_
  refine lv_aload_n hx hb dX2_spareBeside_19 rfl (lv_at hl 0 rfl) ?_
  refine gt_X2_3 C0 hw hk iX2_spareBeside_X2 (by decide +kernel) dX2_spareBeside_20 ?_
  obtain ⟨o4, hco4, h⟩ := q_bind h
  refine q_calll hw (va_runV (As := [.int (o3.2.1 k 3)]) (rest := [.long (o2.1 &&& o3.1)]) C0 (kX2_inPieces hk hco4 _) (cwV 1 hts gX2_spareBeside_X2_inPieces rfl rfl rfl eX2_inPieces ⟨(Nat.le_of_ble_eq_true rfl), (Nat.le_of_ble_eq_true rfl)⟩) ⟨q_blind, q_recv hw (xN_1 hk) (xE_1 hk) rfl, q_pre hw⟩ rfl rfl hl.1 rfl (lv_room (Nat.le_of_ble_eq_true rfl)) dX2_spareBeside_23 ⟨Nat.zero_le _, Nat.zero_le _⟩) (fun H locs hw => ?_)
  refine lv_ldc2 (v := (-1 : Int64)) hx hb hown (hts (.constantLong RX2 67 (-1)) (by decide +kernel)) dX2_spareBeside_26 ?_
  refine lv_lxor hx hb dX2_spareBeside_29 ?_
  refine lv_land hx hb dX2_spareBeside_30 ?_
  exact q_lret h C0 hr hlk hw dX2_spareBeside_31
-- X2_countFaces countFaces(I)I
theorem iX2_countFaces_X2 : ∀ w ∈ wsX20, w ∈ wsX2_countFaces := by decide +kernel
set_option maxHeartbeats 4000000 in
set_option maxRecDepth 100000 in
theorem tX2_countFaces_c4 {k : Nat} {p1 : Int32} (hk : xK k = 1) (C0 : CallFix p m c cX2_countFaces 4 s args wsX2_countFaces RX2) (hr : meth.sig.returnType = (some .int)) (hlk : meth.locks = false) {out : Int32 × q_M}  : ∀ n : Nat, ∀ (v2 : Int32) (v3 : Int32) (σ : q_M) (H : Heap) (locs : List Loc) (ls : Array Slot), q_H (gX D cI cJ cS ad adK adV) (q_A (gX D cI cJ cS ad adK adV) s.heap.size) s σ H locs → lv_has ls 4 [(0, .ref (ad k)), (1, .int p1), (2, .int v2), (3, .int v3)] → fX2_countFaces_c4 k p1 n v2 v3 σ = some out → W p l e { frames := 1, cells := 0, slots := 0, locals := 26 } s m args below meth c H locs 0 0 (MQ below (q_Ri (gX D cI cJ cS ad adK adV) (q_A (gX D cI cJ cS ad adK adV) s.heap.size) out) args s 0 0 (q_A (gX D cI cJ cS ad adK adV) s.heap.size)) (F0 m 4 ls []) := by
  obtain ⟨hx, hb, hml, hown, hts⟩ := id C0
  intro n
  induction n with
  | zero =>
    intro v2 v3 σ H locs ls  hw hl h
    cases (show (none : Option (Int32 × q_M)) = some out from h)
  | succ n hrec4 =>
    intro v2 v3 σ H locs ls  hw hl h
    replace h : fX2_countFaces_c4b k p1 (fX2_countFaces_c4 k p1 n) v2 v3 σ = some out := h
    unfold fX2_countFaces_c4b at h
    refine lv_iload_n hx hb dX2_countFaces_4 rfl (lv_at hl 3 rfl) ?_
    refine lv_bipush (v := (6 : Int32)) hx hb dX2_countFaces_5 (by decide) ?_
    refine lv_icmp_ge (tgt := 41) hx hb dX2_countFaces_7 (by decide) (fun c1 => ?_) (fun c1 => ?_)
    · replace h := q_t h c1
      refine lv_iload_n hx hb dX2_countFaces_41 rfl (lv_at hl 2 rfl) ?_
      exact q_iret h C0 hr hlk hw dX2_countFaces_42
    · replace h := q_f h c1
      refine lv_iload_n hx hb dX2_countFaces_10 rfl (lv_at hl 2 rfl) ?_
      refine lv_aload_n hx hb dX2_countFaces_11 rfl (lv_at hl 0 rfl) ?_
      refine gt_X2_0 C0 hw hk iX2_countFaces_X2 (by decide +kernel) dX2_countFaces_12 ?_
      refine lv_aload_n hx hb dX2_countFaces_15 rfl (lv_at hl 0 rfl) ?_
      refine gt_X2_6 C0 hw hk iX2_countFaces_X2 (by decide +kernel) dX2_countFaces_16 ?_
      refine lv_iload_n hx hb dX2_countFaces_19 rfl (lv_at hl 1 rfl) ?_
      obtain ⟨b2, h⟩ := q_if h
      refine q_lald (t0 := 1) C0 hw (xN_6 (xD_1_5 hk)) (xE_6 (xD_1_5 hk)) rfl b2 dX2_countFaces_20 ?_
      refine lv_iload_n hx hb dX2_countFaces_21 rfl (lv_at hl 3 rfl) ?_
      obtain ⟨o3, hco3, h⟩ := q_bind h
      refine q_calll hw (va_runV (As := [.long (σ.2 (k + 5) p1.toNatClampNeg), .int v3]) (rest := [.int v2]) C0 (kX0_shifted (xD_1_1 hk) hco3 _) (cwV 2 hts gX2_countFaces_X0_shifted rfl rfl rfl eX0_shifted ⟨(Nat.le_of_ble_eq_true rfl), (Nat.le_of_ble_eq_true rfl)⟩) ⟨q_blind, q_recv hw (xN_2 (xD_1_1 hk)) (xE_2 (xD_1_1 hk)) rfl, q_pre hw⟩ rfl rfl hl.1 rfl (lv_room (Nat.le_of_ble_eq_true rfl)) dX2_countFaces_22 ⟨Nat.zero_le _, Nat.zero_le _⟩) (fun H locs hw => ?_)
      refine lv_aload_n hx hb dX2_countFaces_25 rfl (lv_at hl 0 rfl) ?_
      refine gt_X2_1 C0 hw hk iX2_countFaces_X2 (by decide +kernel) dX2_countFaces_26 ?_
      refine lv_land hx hb dX2_countFaces_29 ?_
      obtain ⟨o4, hco4, h⟩ := q_bind h
      refine q_calli hw (va_runS (As := [.long (o3.1 &&& (o3.2.2 k 1))]) (rest := [.int v2]) C0 (kJ13_bitCount_95d88 hco4 _) (va_cwS 1 hts gX2_countFaces_J13_bitCount_95d88 rfl rfl rfl eJ13_bitCount_95d88 ⟨(Nat.le_of_ble_eq_true rfl), (Nat.le_of_ble_eq_true rfl)⟩) ⟨q_blind, q_pre hw⟩ rfl rfl hl.1 rfl (lv_room (Nat.le_of_ble_eq_true rfl)) dX2_countFaces_30 ⟨Nat.zero_le _, Nat.zero_le _⟩) (fun H locs hw => ?_)
      refine lv_iadd hx hb dX2_countFaces_33 ?_
      refine lv_istore_n (lv' := [(2, .int (v2 + o4.1)), (0, .ref (ad k)), (1, .int p1), (3, .int v3)]) hx hb dX2_countFaces_34 rfl hl (by decide) rfl (fun ls hl => ?_)
      refine lv_iinc (v := (v3 + (1 : Int32))) (lv' := [(3, .int (v3 + (1 : Int32))), (2, .int (v2 + o4.1)), (0, .ref (ad k)), (1, .int p1)]) hx hb dX2_countFaces_35 hl (k := 3) rfl rfl (by decide) rfl (fun ls hl => ?_)
      refine lv_goto (tgt := 4) hx hb dX2_countFaces_38 (by decide) ?_
      exact hrec4 (v2 + o4.1) (v3 + (1 : Int32)) o4.2 _ _ _ hw (lv_sub hl [2, 3, 1, 0] rfl) h
set_option maxHeartbeats 4000000 in
set_option maxRecDepth 100000 in
theorem kX2_countFaces {k : Nat} {p1 : Int32} (hk : xK k = 1) {σ : q_M} {out : Int32 × q_M} (h : fX2_countFaces k p1 σ = some out) : q_Mi l (gX D cI cJ cS ad adK adV) yX2_countFaces wsX2_countFaces { frames := 1, cells := 0, slots := 0, locals := 26 } [.ref (ad k), .int p1] σ out := by
  refine q_Mi_of (cc := cX2_countFaces) (maxL := 4) (ret := (some .int)) (by decide) rfl (Nat.le_of_ble_eq_true rfl) ?_
  intro p e s m below meth c ls C0 hr hlk hl hw
  obtain ⟨hx, hb, hml, hown, hts⟩ := id C0
  replace hl : lv_has ls 4 [(0, .ref (ad k)), (1, .int p1)] := hl
  unfold fX2_countFaces at h
  refine lv_iconst (v := (0 : Int32)) hx hb dX2_countFaces_0 (by decide) ?_
  refine lv_istore_n (lv' := [(2, .int (0 : Int32)), (0, .ref (ad k)), (1, .int p1)]) hx hb dX2_countFaces_1 rfl hl (by decide) rfl (fun ls hl => ?_)
  refine lv_iconst (v := (0 : Int32)) hx hb dX2_countFaces_2 (by decide) ?_
  refine lv_istore_n (lv' := [(3, .int (0 : Int32)), (2, .int (0 : Int32)), (0, .ref (ad k)), (1, .int p1)]) hx hb dX2_countFaces_3 rfl hl (by decide) rfl (fun ls hl => ?_)
  exact tX2_countFaces_c4 hk C0 hr hlk q_FU (0 : Int32) (0 : Int32) σ _ _ _ hw (lv_sub hl [2, 3, 1, 0] rfl) h
-- X2_mirrorAll mirrorAll(I)V
theorem iX2_mirrorAll_X2 : ∀ w ∈ wsX20, w ∈ wsX2_mirrorAll := by decide +kernel
theorem eX0_mirrored : yX0_mirrored.cls = RX0 ∧ yX0_mirrored.cls ≠ "java/lang/invoke/MethodHandle" ∧ yX0_mirrored.cls ≠ "java/lang/invoke/VarHandle" ∧ (parseMethodDescriptor yX0_mirrored.desc).map (fun d => d.parameters.length) = some 2 := by decide +kernel
set_option maxHeartbeats 4000000 in
set_option maxRecDepth 100000 in
theorem tX2_mirrorAll_c54 {k : Nat} {p1 : Int32} (hk : xK k = 1) (C0 : CallFix p m c cX2_mirrorAll 3 s args wsX2_mirrorAll RX2) (hr : meth.sig.returnType = none) (hlk : meth.locks = false) {out : q_M}  : ∀ n : Nat, ∀ (v2 : Int32) (σ : q_M) (H : Heap) (locs : List Loc) (ls : Array Slot), q_H (gX D cI cJ cS ad adK adV) (q_A (gX D cI cJ cS ad adK adV) s.heap.size) s σ H locs → lv_has ls 3 [(0, .ref (ad k)), (1, .int p1), (2, .int v2)] → fX2_mirrorAll_c54 k p1 n v2 σ = some out → W p l e { frames := 2, cells := 0, slots := 0, locals := 48 } s m args below meth c H locs 0 0 (MQ below (q_Rv (gX D cI cJ cS ad adK adV) (q_A (gX D cI cJ cS ad adK adV) s.heap.size) out) args s 0 0 (q_A (gX D cI cJ cS ad adK adV) s.heap.size)) (F0 m 54 ls []) := by
  obtain ⟨hx, hb, hml, hown, hts⟩ := id C0
  intro n
  induction n with
  | zero =>
    intro v2 σ H locs ls  hw hl h
    cases (show (none : Option (q_M)) = some out from h)
  | succ n hrec54 =>
    intro v2 σ H locs ls  hw hl h
    replace h : fX2_mirrorAll_c54b k p1 (fX2_mirrorAll_c54 k p1 n) v2 σ = some out := h
    unfold fX2_mirrorAll_c54b at h
    refine lv_iload_n hx hb dX2_mirrorAll_54 rfl (lv_at hl 2 rfl) ?_
    refine lv_iconst (v := (4 : Int32)) hx hb dX2_mirrorAll_55 (by decide) ?_
    refine lv_icmp_ge (tgt := 85) hx hb dX2_mirrorAll_56 (by decide) (fun c1 => ?_) (fun c1 => ?_)
    · replace h := q_t h c1
      exact q_vret h C0 hr hlk hw dX2_mirrorAll_85
    · replace h := q_f h c1
      refine lv_aload_n hx hb dX2_mirrorAll_59 rfl (lv_at hl 0 rfl) ?_
      refine gt_X2_7 C0 hw hk iX2_mirrorAll_X2 (by decide +kernel) dX2_mirrorAll_60 ?_
      refine lv_iload_n hx hb dX2_mirrorAll_63 rfl (lv_at hl 2 rfl) ?_
      refine lv_aload_n hx hb dX2_mirrorAll_64 rfl (lv_at hl 0 rfl) ?_
      refine gt_X2_0 C0 hw hk iX2_mirrorAll_X2 (by decide +kernel) dX2_mirrorAll_65 ?_
      refine lv_aload_n hx hb dX2_mirrorAll_68 rfl (lv_at hl 0 rfl) ?_
      refine gt_X2_7 C0 hw hk iX2_mirrorAll_X2 (by decide +kernel) dX2_mirrorAll_69 ?_
      refine lv_iload_n hx hb dX2_mirrorAll_72 rfl (lv_at hl 2 rfl) ?_
      obtain ⟨b2, h⟩ := q_if h
      refine q_lald (t0 := 1) C0 hw (xN_7 (xD_1_6 hk)) (xE_7 (xD_1_6 hk)) rfl b2 dX2_mirrorAll_73 ?_
      refine lv_iload_n hx hb dX2_mirrorAll_74 rfl (lv_at hl 1 rfl) ?_
      obtain ⟨o3, hco3, h⟩ := q_bind h
      refine q_calll hw (va_runV (As := [.long (σ.2 (k + 6) v2.toNatClampNeg), .int p1]) (rest := [.int v2, .ref (ad (k + 6))]) C0 (kX0_mirrored (xD_1_1 hk) hco3 _) (cwV 2 hts gX2_mirrorAll_X0_mirrored rfl rfl rfl eX0_mirrored ⟨(Nat.le_of_ble_eq_true rfl), (Nat.le_of_ble_eq_true rfl)⟩) ⟨q_blind, q_recv hw (xN_2 (xD_1_1 hk)) (xE_2 (xD_1_1 hk)) rfl, q_pre hw⟩ rfl rfl hl.1 rfl (lv_room (Nat.le_of_ble_eq_true rfl)) dX2_mirrorAll_75 ⟨Nat.zero_le _, Nat.zero_le _⟩) (fun H locs hw => ?_)
      obtain ⟨b4, h⟩ := q_if h
      refine q_last (t0 := 1) C0 hw (xN_7 (xD_1_6 hk)) (xE_7 (xD_1_6 hk)) rfl b4 dX2_mirrorAll_78 (fun σ5 H locs e_σ5 hw => ?_)
      replace h := q_let_at e_σ5 h
      refine lv_iinc (v := (v2 + (1 : Int32))) (lv' := [(2, .int (v2 + (1 : Int32))), (0, .ref (ad k)), (1, .int p1)]) hx hb dX2_mirrorAll_79 hl (k := 2) rfl rfl (by decide) rfl (fun ls hl => ?_)
      refine lv_goto (tgt := 54) hx hb dX2_mirrorAll_82 (by decide) ?_
      exact hrec54 (v2 + (1 : Int32)) σ5 _ _ _ hw (lv_sub hl [1, 2, 0] rfl) h
set_option maxHeartbeats 4000000 in
set_option maxRecDepth 100000 in
theorem tX2_mirrorAll_c18 {k : Nat} {p1 : Int32} (hk : xK k = 1) (C0 : CallFix p m c cX2_mirrorAll 3 s args wsX2_mirrorAll RX2) (hr : meth.sig.returnType = none) (hlk : meth.locks = false) {out : q_M}  : ∀ n : Nat, ∀ (v2 : Int32) (σ : q_M) (H : Heap) (locs : List Loc) (ls : Array Slot), q_H (gX D cI cJ cS ad adK adV) (q_A (gX D cI cJ cS ad adK adV) s.heap.size) s σ H locs → lv_has ls 3 [(0, .ref (ad k)), (1, .int p1), (2, .int v2)] → fX2_mirrorAll_c18 k p1 n v2 σ = some out → W p l e { frames := 2, cells := 0, slots := 0, locals := 48 } s m args below meth c H locs 0 0 (MQ below (q_Rv (gX D cI cJ cS ad adK adV) (q_A (gX D cI cJ cS ad adK adV) s.heap.size) out) args s 0 0 (q_A (gX D cI cJ cS ad adK adV) s.heap.size)) (F0 m 18 ls []) := by
  obtain ⟨hx, hb, hml, hown, hts⟩ := id C0
  intro n
  induction n with
  | zero =>
    intro v2 σ H locs ls  hw hl h
    cases (show (none : Option (q_M)) = some out from h)
  | succ n hrec18 =>
    intro v2 σ H locs ls  hw hl h
    replace h : fX2_mirrorAll_c18b k p1 (fX2_mirrorAll_c18 k p1 n) v2 σ = some out := h
    unfold fX2_mirrorAll_c18b at h
    refine lv_iload_n hx hb dX2_mirrorAll_18 rfl (lv_at hl 2 rfl) ?_
    refine lv_aload_n hx hb dX2_mirrorAll_19 rfl (lv_at hl 0 rfl) ?_
    refine gt_X2_2 C0 hw hk iX2_mirrorAll_X2 (by decide +kernel) dX2_mirrorAll_20 ?_
    refine lv_icmp_ge (tgt := 52) hx hb dX2_mirrorAll_23 (by decide) (fun c1 => ?_) (fun c1 => ?_)
    · replace h := q_t h c1
      refine lv_iconst (v := (0 : Int32)) hx hb dX2_mirrorAll_52 (by decide) ?_
      refine lv_istore_n (lv' := [(2, .int (0 : Int32)), (0, .ref (ad k)), (1, .int p1)]) hx hb dX2_mirrorAll_53 rfl hl (by decide) rfl (fun ls hl => ?_)
      exact tX2_mirrorAll_c54 hk C0 hr hlk q_FU (0 : Int32) σ _ _ _ hw (lv_sub hl [1, 2, 0] rfl) h
    · replace h := q_f h c1
      refine lv_aload_n hx hb dX2_mirrorAll_26 rfl (lv_at hl 0 rfl) ?_
      refine gt_X2_6 C0 hw hk iX2_mirrorAll_X2 (by decide +kernel) dX2_mirrorAll_27 ?_
      refine lv_iload_n hx hb dX2_mirrorAll_30 rfl (lv_at hl 2 rfl) ?_
      refine lv_aload_n hx hb dX2_mirrorAll_31 rfl (lv_at hl 0 rfl) ?_
      refine gt_X2_0 C0 hw hk iX2_mirrorAll_X2 (by decide +kernel) dX2_mirrorAll_32 ?_
      refine lv_aload_n hx hb dX2_mirrorAll_35 rfl (lv_at hl 0 rfl) ?_
      refine gt_X2_6 C0 hw hk iX2_mirrorAll_X2 (by decide +kernel) dX2_mirrorAll_36 ?_
      refine lv_iload_n hx hb dX2_mirrorAll_39 rfl (lv_at hl 2 rfl) ?_
      obtain ⟨b2, h⟩ := q_if h
      refine q_lald (t0 := 1) C0 hw (xN_6 (xD_1_5 hk)) (xE_6 (xD_1_5 hk)) rfl b2 dX2_mirrorAll_40 ?_
      refine lv_iload_n hx hb dX2_mirrorAll_41 rfl (lv_at hl 1 rfl) ?_
      obtain ⟨o3, hco3, h⟩ := q_bind h
      refine q_calll hw (va_runV (As := [.long (σ.2 (k + 5) v2.toNatClampNeg), .int p1]) (rest := [.int v2, .ref (ad (k + 5))]) C0 (kX0_mirrored (xD_1_1 hk) hco3 _) (cwV 2 hts gX2_mirrorAll_X0_mirrored rfl rfl rfl eX0_mirrored ⟨(Nat.le_of_ble_eq_true rfl), (Nat.le_of_ble_eq_true rfl)⟩) ⟨q_blind, q_recv hw (xN_2 (xD_1_1 hk)) (xE_2 (xD_1_1 hk)) rfl, q_pre hw⟩ rfl rfl hl.1 rfl (lv_room (Nat.le_of_ble_eq_true rfl)) dX2_mirrorAll_42 ⟨Nat.zero_le _, Nat.zero_le _⟩) (fun H locs hw => ?_)
      obtain ⟨b4, h⟩ := q_if h
      refine q_last (t0 := 1) C0 hw (xN_6 (xD_1_5 hk)) (xE_6 (xD_1_5 hk)) rfl b4 dX2_mirrorAll_45 (fun σ5 H locs e_σ5 hw => ?_)
      replace h := q_let_at e_σ5 h
      refine lv_iinc (v := (v2 + (1 : Int32))) (lv' := [(2, .int (v2 + (1 : Int32))), (0, .ref (ad k)), (1, .int p1)]) hx hb dX2_mirrorAll_46 hl (k := 2) rfl rfl (by decide) rfl (fun ls hl => ?_)
      refine lv_goto (tgt := 18) hx hb dX2_mirrorAll_49 (by decide) ?_
      exact hrec18 (v2 + (1 : Int32)) σ5 _ _ _ hw (lv_sub hl [1, 2, 0] rfl) h
set_option maxHeartbeats 4000000 in
set_option maxRecDepth 100000 in
theorem kX2_mirrorAll {k : Nat} {p1 : Int32} (hk : xK k = 1) {σ : q_M} {out : q_M} (h : fX2_mirrorAll k p1 σ = some out) : q_Mv l (gX D cI cJ cS ad adK adV) yX2_mirrorAll wsX2_mirrorAll { frames := 2, cells := 0, slots := 0, locals := 48 } [.ref (ad k), .int p1] σ out := by
  refine q_Mv_of (cc := cX2_mirrorAll) (maxL := 3) (ret := none) (by decide) rfl (Nat.le_of_ble_eq_true rfl) ?_
  intro p e s m below meth c ls C0 hr hlk hl hw
  obtain ⟨hx, hb, hml, hown, hts⟩ := id C0
  replace hl : lv_has ls 3 [(0, .ref (ad k)), (1, .int p1)] := hl
  unfold fX2_mirrorAll at h
  refine lv_aload_n hx hb dX2_mirrorAll_0 rfl (lv_at hl 0 rfl) ?_
  refine lv_aload_n hx hb dX2_mirrorAll_1 rfl (lv_at hl 0 rfl) ?_
  refine gt_X2_0 C0 hw hk iX2_mirrorAll_X2 (by decide +kernel) dX2_mirrorAll_2 ?_
  refine lv_aload_n hx hb dX2_mirrorAll_5 rfl (lv_at hl 0 rfl) ?_
  refine gt_X2_1 C0 hw hk iX2_mirrorAll_X2 (by decide +kernel) dX2_mirrorAll_6 ?_
  refine lv_iload_n hx hb dX2_mirrorAll_9 rfl (lv_at hl 1 rfl) ?_
  obtain ⟨o1, hco1, h⟩ := q_bind h
  refine q_calll hw (va_runV (As := [.long (σ.2 k 1), .int p1]) (rest := [.ref (ad k)]) C0 (kX0_mirrored (xD_1_1 hk) hco1 _) (cwV 2 hts gX2_mirrorAll_X0_mirrored rfl rfl rfl eX0_mirrored ⟨(Nat.le_of_ble_eq_true rfl), (Nat.le_of_ble_eq_true rfl)⟩) ⟨q_blind, q_recv hw (xN_2 (xD_1_1 hk)) (xE_2 (xD_1_1 hk)) rfl, q_pre hw⟩ rfl rfl hl.1 rfl (lv_room (Nat.le_of_ble_eq_true rfl)) dX2_mirrorAll_10 ⟨Nat.zero_le _, Nat.zero_le _⟩) (fun H locs hw => ?_)
  refine pt_X2_1 C0 hw hk iX2_mirrorAll_X2 (by decide +kernel) dX2_mirrorAll_13 (fun σ2 H locs e_σ2 hw => ?_)
  replace h := q_let_at e_σ2 h
  refine lv_iconst (v := (0 : Int32)) hx hb dX2_mirrorAll_16 (by decide) ?_
  refine lv_istore_n (lv' := [(2, .int (0 : Int32)), (0, .ref (ad k)), (1, .int p1)]) hx hb dX2_mirrorAll_17 rfl hl (by decide) rfl (fun ls hl => ?_)
  exact tX2_mirrorAll_c18 hk C0 hr hlk q_FU (0 : Int32) σ2 _ _ _ hw (lv_sub hl [1, 2, 0] rfl) h
-- X2_turnAll turnAll(I)V
theorem iX2_turnAll_X2 : ∀ w ∈ wsX20, w ∈ wsX2_turnAll := by decide +kernel
theorem eX0_turned : yX0_turned.cls = RX0 ∧ yX0_turned.cls ≠ "java/lang/invoke/MethodHandle" ∧ yX0_turned.cls ≠ "java/lang/invoke/VarHandle" ∧ (parseMethodDescriptor yX0_turned.desc).map (fun d => d.parameters.length) = some 2 := by decide +kernel
set_option maxHeartbeats 4000000 in
set_option maxRecDepth 100000 in
theorem tX2_turnAll_c54 {k : Nat} {p1 : Int32} (hk : xK k = 1) (C0 : CallFix p m c cX2_turnAll 3 s args wsX2_turnAll RX2) (hr : meth.sig.returnType = none) (hlk : meth.locks = false) {out : q_M}  : ∀ n : Nat, ∀ (v2 : Int32) (σ : q_M) (H : Heap) (locs : List Loc) (ls : Array Slot), q_H (gX D cI cJ cS ad adK adV) (q_A (gX D cI cJ cS ad adK adV) s.heap.size) s σ H locs → lv_has ls 3 [(0, .ref (ad k)), (1, .int p1), (2, .int v2)] → fX2_turnAll_c54 k p1 n v2 σ = some out → W p l e { frames := 2, cells := 0, slots := 0, locals := 53 } s m args below meth c H locs 0 0 (MQ below (q_Rv (gX D cI cJ cS ad adK adV) (q_A (gX D cI cJ cS ad adK adV) s.heap.size) out) args s 0 0 (q_A (gX D cI cJ cS ad adK adV) s.heap.size)) (F0 m 54 ls []) := by
  obtain ⟨hx, hb, hml, hown, hts⟩ := id C0
  intro n
  induction n with
  | zero =>
    intro v2 σ H locs ls  hw hl h
    cases (show (none : Option (q_M)) = some out from h)
  | succ n hrec54 =>
    intro v2 σ H locs ls  hw hl h
    replace h : fX2_turnAll_c54b k p1 (fX2_turnAll_c54 k p1 n) v2 σ = some out := h
    unfold fX2_turnAll_c54b at h
    refine lv_iload_n hx hb dX2_turnAll_54 rfl (lv_at hl 2 rfl) ?_
    refine lv_iconst (v := (4 : Int32)) hx hb dX2_turnAll_55 (by decide) ?_
    refine lv_icmp_ge (tgt := 85) hx hb dX2_turnAll_56 (by decide) (fun c1 => ?_) (fun c1 => ?_)
    · replace h := q_t h c1
      exact q_vret h C0 hr hlk hw dX2_turnAll_85
    · replace h := q_f h c1
      refine lv_aload_n hx hb dX2_turnAll_59 rfl (lv_at hl 0 rfl) ?_
      refine gt_X2_7 C0 hw hk iX2_turnAll_X2 (by decide +kernel) dX2_turnAll_60 ?_
      refine lv_iload_n hx hb dX2_turnAll_63 rfl (lv_at hl 2 rfl) ?_
      refine lv_aload_n hx hb dX2_turnAll_64 rfl (lv_at hl 0 rfl) ?_
      refine gt_X2_0 C0 hw hk iX2_turnAll_X2 (by decide +kernel) dX2_turnAll_65 ?_
      refine lv_aload_n hx hb dX2_turnAll_68 rfl (lv_at hl 0 rfl) ?_
      refine gt_X2_7 C0 hw hk iX2_turnAll_X2 (by decide +kernel) dX2_turnAll_69 ?_
      refine lv_iload_n hx hb dX2_turnAll_72 rfl (lv_at hl 2 rfl) ?_
      obtain ⟨b2, h⟩ := q_if h
      refine q_lald (t0 := 1) C0 hw (xN_7 (xD_1_6 hk)) (xE_7 (xD_1_6 hk)) rfl b2 dX2_turnAll_73 ?_
      refine lv_iload_n hx hb dX2_turnAll_74 rfl (lv_at hl 1 rfl) ?_
      obtain ⟨o3, hco3, h⟩ := q_bind h
      refine q_calll hw (va_runV (As := [.long (σ.2 (k + 6) v2.toNatClampNeg), .int p1]) (rest := [.int v2, .ref (ad (k + 6))]) C0 (kX0_turned (xD_1_1 hk) hco3 _) (cwV 2 hts gX2_turnAll_X0_turned rfl rfl rfl eX0_turned ⟨(Nat.le_of_ble_eq_true rfl), (Nat.le_of_ble_eq_true rfl)⟩) ⟨q_blind, q_recv hw (xN_2 (xD_1_1 hk)) (xE_2 (xD_1_1 hk)) rfl, q_pre hw⟩ rfl rfl hl.1 rfl (lv_room (Nat.le_of_ble_eq_true rfl)) dX2_turnAll_75 ⟨Nat.zero_le _, Nat.zero_le _⟩) (fun H locs hw => ?_)
      obtain ⟨b4, h⟩ := q_if h
      refine q_last (t0 := 1) C0 hw (xN_7 (xD_1_6 hk)) (xE_7 (xD_1_6 hk)) rfl b4 dX2_turnAll_78 (fun σ5 H locs e_σ5 hw => ?_)
      replace h := q_let_at e_σ5 h
      refine lv_iinc (v := (v2 + (1 : Int32))) (lv' := [(2, .int (v2 + (1 : Int32))), (0, .ref (ad k)), (1, .int p1)]) hx hb dX2_turnAll_79 hl (k := 2) rfl rfl (by decide) rfl (fun ls hl => ?_)
      refine lv_goto (tgt := 54) hx hb dX2_turnAll_82 (by decide) ?_
      exact hrec54 (v2 + (1 : Int32)) σ5 _ _ _ hw (lv_sub hl [1, 2, 0] rfl) h
set_option maxHeartbeats 4000000 in
set_option maxRecDepth 100000 in
theorem tX2_turnAll_c18 {k : Nat} {p1 : Int32} (hk : xK k = 1) (C0 : CallFix p m c cX2_turnAll 3 s args wsX2_turnAll RX2) (hr : meth.sig.returnType = none) (hlk : meth.locks = false) {out : q_M}  : ∀ n : Nat, ∀ (v2 : Int32) (σ : q_M) (H : Heap) (locs : List Loc) (ls : Array Slot), q_H (gX D cI cJ cS ad adK adV) (q_A (gX D cI cJ cS ad adK adV) s.heap.size) s σ H locs → lv_has ls 3 [(0, .ref (ad k)), (1, .int p1), (2, .int v2)] → fX2_turnAll_c18 k p1 n v2 σ = some out → W p l e { frames := 2, cells := 0, slots := 0, locals := 53 } s m args below meth c H locs 0 0 (MQ below (q_Rv (gX D cI cJ cS ad adK adV) (q_A (gX D cI cJ cS ad adK adV) s.heap.size) out) args s 0 0 (q_A (gX D cI cJ cS ad adK adV) s.heap.size)) (F0 m 18 ls []) := by
  obtain ⟨hx, hb, hml, hown, hts⟩ := id C0
  intro n
  induction n with
  | zero =>
    intro v2 σ H locs ls  hw hl h
    cases (show (none : Option (q_M)) = some out from h)
  | succ n hrec18 =>
    intro v2 σ H locs ls  hw hl h
    replace h : fX2_turnAll_c18b k p1 (fX2_turnAll_c18 k p1 n) v2 σ = some out := h
    unfold fX2_turnAll_c18b at h
    refine lv_iload_n hx hb dX2_turnAll_18 rfl (lv_at hl 2 rfl) ?_
    refine lv_aload_n hx hb dX2_turnAll_19 rfl (lv_at hl 0 rfl) ?_
    refine gt_X2_2 C0 hw hk iX2_turnAll_X2 (by decide +kernel) dX2_turnAll_20 ?_
    refine lv_icmp_ge (tgt := 52) hx hb dX2_turnAll_23 (by decide) (fun c1 => ?_) (fun c1 => ?_)
    · replace h := q_t h c1
      refine lv_iconst (v := (0 : Int32)) hx hb dX2_turnAll_52 (by decide) ?_
      refine lv_istore_n (lv' := [(2, .int (0 : Int32)), (0, .ref (ad k)), (1, .int p1)]) hx hb dX2_turnAll_53 rfl hl (by decide) rfl (fun ls hl => ?_)
      exact tX2_turnAll_c54 hk C0 hr hlk q_FU (0 : Int32) σ _ _ _ hw (lv_sub hl [1, 2, 0] rfl) h
    · replace h := q_f h c1
      refine lv_aload_n hx hb dX2_turnAll_26 rfl (lv_at hl 0 rfl) ?_
      refine gt_X2_6 C0 hw hk iX2_turnAll_X2 (by decide +kernel) dX2_turnAll_27 ?_
      refine lv_iload_n hx hb dX2_turnAll_30 rfl (lv_at hl 2 rfl) ?_
      refine lv_aload_n hx hb dX2_turnAll_31 rfl (lv_at hl 0 rfl) ?_
      refine gt_X2_0 C0 hw hk iX2_turnAll_X2 (by decide +kernel) dX2_turnAll_32 ?_
      refine lv_aload_n hx hb dX2_turnAll_35 rfl (lv_at hl 0 rfl) ?_
      refine gt_X2_6 C0 hw hk iX2_turnAll_X2 (by decide +kernel) dX2_turnAll_36 ?_
      refine lv_iload_n hx hb dX2_turnAll_39 rfl (lv_at hl 2 rfl) ?_
      obtain ⟨b2, h⟩ := q_if h
      refine q_lald (t0 := 1) C0 hw (xN_6 (xD_1_5 hk)) (xE_6 (xD_1_5 hk)) rfl b2 dX2_turnAll_40 ?_
      refine lv_iload_n hx hb dX2_turnAll_41 rfl (lv_at hl 1 rfl) ?_
      obtain ⟨o3, hco3, h⟩ := q_bind h
      refine q_calll hw (va_runV (As := [.long (σ.2 (k + 5) v2.toNatClampNeg), .int p1]) (rest := [.int v2, .ref (ad (k + 5))]) C0 (kX0_turned (xD_1_1 hk) hco3 _) (cwV 2 hts gX2_turnAll_X0_turned rfl rfl rfl eX0_turned ⟨(Nat.le_of_ble_eq_true rfl), (Nat.le_of_ble_eq_true rfl)⟩) ⟨q_blind, q_recv hw (xN_2 (xD_1_1 hk)) (xE_2 (xD_1_1 hk)) rfl, q_pre hw⟩ rfl rfl hl.1 rfl (lv_room (Nat.le_of_ble_eq_true rfl)) dX2_turnAll_42 ⟨Nat.zero_le _, Nat.zero_le _⟩) (fun H locs hw => ?_)
      obtain ⟨b4, h⟩ := q_if h
      refine q_last (t0 := 1) C0 hw (xN_6 (xD_1_5 hk)) (xE_6 (xD_1_5 hk)) rfl b4 dX2_turnAll_45 (fun σ5 H locs e_σ5 hw => ?_)
      replace h := q_let_at e_σ5 h
      refine lv_iinc (v := (v2 + (1 : Int32))) (lv' := [(2, .int (v2 + (1 : Int32))), (0, .ref (ad k)), (1, .int p1)]) hx hb dX2_turnAll_46 hl (k := 2) rfl rfl (by decide) rfl (fun ls hl => ?_)
      refine lv_goto (tgt := 18) hx hb dX2_turnAll_49 (by decide) ?_
      exact hrec18 (v2 + (1 : Int32)) σ5 _ _ _ hw (lv_sub hl [1, 2, 0] rfl) h
set_option maxHeartbeats 4000000 in
set_option maxRecDepth 100000 in
theorem kX2_turnAll {k : Nat} {p1 : Int32} (hk : xK k = 1) {σ : q_M} {out : q_M} (h : fX2_turnAll k p1 σ = some out) : q_Mv l (gX D cI cJ cS ad adK adV) yX2_turnAll wsX2_turnAll { frames := 2, cells := 0, slots := 0, locals := 53 } [.ref (ad k), .int p1] σ out := by
  refine q_Mv_of (cc := cX2_turnAll) (maxL := 3) (ret := none) (by decide) rfl (Nat.le_of_ble_eq_true rfl) ?_
  intro p e s m below meth c ls C0 hr hlk hl hw
  obtain ⟨hx, hb, hml, hown, hts⟩ := id C0
  replace hl : lv_has ls 3 [(0, .ref (ad k)), (1, .int p1)] := hl
  unfold fX2_turnAll at h
  refine lv_aload_n hx hb dX2_turnAll_0 rfl (lv_at hl 0 rfl) ?_
  refine lv_aload_n hx hb dX2_turnAll_1 rfl (lv_at hl 0 rfl) ?_
  refine gt_X2_0 C0 hw hk iX2_turnAll_X2 (by decide +kernel) dX2_turnAll_2 ?_
  refine lv_aload_n hx hb dX2_turnAll_5 rfl (lv_at hl 0 rfl) ?_
  refine gt_X2_1 C0 hw hk iX2_turnAll_X2 (by decide +kernel) dX2_turnAll_6 ?_
  refine lv_iload_n hx hb dX2_turnAll_9 rfl (lv_at hl 1 rfl) ?_
  obtain ⟨o1, hco1, h⟩ := q_bind h
  refine q_calll hw (va_runV (As := [.long (σ.2 k 1), .int p1]) (rest := [.ref (ad k)]) C0 (kX0_turned (xD_1_1 hk) hco1 _) (cwV 2 hts gX2_turnAll_X0_turned rfl rfl rfl eX0_turned ⟨(Nat.le_of_ble_eq_true rfl), (Nat.le_of_ble_eq_true rfl)⟩) ⟨q_blind, q_recv hw (xN_2 (xD_1_1 hk)) (xE_2 (xD_1_1 hk)) rfl, q_pre hw⟩ rfl rfl hl.1 rfl (lv_room (Nat.le_of_ble_eq_true rfl)) dX2_turnAll_10 ⟨Nat.zero_le _, Nat.zero_le _⟩) (fun H locs hw => ?_)
  refine pt_X2_1 C0 hw hk iX2_turnAll_X2 (by decide +kernel) dX2_turnAll_13 (fun σ2 H locs e_σ2 hw => ?_)
  replace h := q_let_at e_σ2 h
  refine lv_iconst (v := (0 : Int32)) hx hb dX2_turnAll_16 (by decide) ?_
  refine lv_istore_n (lv' := [(2, .int (0 : Int32)), (0, .ref (ad k)), (1, .int p1)]) hx hb dX2_turnAll_17 rfl hl (by decide) rfl (fun ls hl => ?_)
  exact tX2_turnAll_c18 hk C0 hr hlk q_FU (0 : Int32) σ2 _ _ _ hw (lv_sub hl [1, 2, 0] rfl) h
end
