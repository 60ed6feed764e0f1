section
variable {p : Program} {l : Launch} {e : Env} {s : State} {m : MethodId} {args : Array Value} {below : List Frame} {meth : Method} {c : Code} {D : va_G} {cI cJ cR : ClassId} {ad adK adV : Nat → Nat} {N : Nat}
-- X9_showOnes showOnes()V
theorem iX9_showOnes_X9 : ∀ w ∈ wsX90, w ∈ wsX9_showOnes := by decide +kernel
set_option maxHeartbeats 4000000 in
set_option maxRecDepth 100000 in
theorem tX9_showOnes_c2 {k : Nat} (hk : mB N k) (C0 : CallFix p m c cX9_showOnes 2 s args wsX9_showOnes RX9) (hr : meth.sig.returnType = none) (hlk : meth.locks = false) {out : q_M}  : ∀ n : Nat, ∀ (v1 : Int32) (σ : q_M) (H : Heap) (locs : List Loc) (ls : Array Slot), q_H (gM D cI cJ cR ad adK adV N) (q_A (gM D cI cJ cR ad adK adV N) s.heap.size) s σ H locs → lv_has ls 2 [(0, .ref (ad k)), (1, .int v1)] → fX9_showOnes_c2 k n v1 σ = some out → W p l e { frames := 0, cells := 0, slots := 0, locals := 0 } s m args below meth c H locs 0 0 (MQ below (q_Rv (gM D cI cJ cR ad adK adV N) (q_A (gM D cI cJ cR ad adK adV N) s.heap.size) out) args s 0 0 (q_A (gM D cI cJ cR ad adK adV N) s.heap.size)) (F0 m 2 ls []) := by
  obtain ⟨hx, hb, hml, hown, hts⟩ := id C0
  intro n
  induction n with
  | zero =>
    intro v1 σ H locs ls  hw hl h
    cases (show (none : Option (q_M)) = some out from h)
  | succ n hrec2 =>
    intro v1 σ H locs ls  hw hl h
    replace h : fX9_showOnes_c2b k (fX9_showOnes_c2 k n) v1 σ = some out := h
    unfold fX9_showOnes_c2b at h
    refine lv_iload_n hx hb dX9_showOnes_2 rfl (lv_at hl 1 rfl) ?_
    refine lv_bipush (v := (64 : Int32)) hx hb dX9_showOnes_3 (by decide) ?_
    refine lv_icmp_ge (tgt := 21) hx hb dX9_showOnes_5 (by decide) (fun c1 => ?_) (fun c1 => ?_)
    · replace h := q_t h c1
      exact q_vret h C0 hr hlk hw dX9_showOnes_21
    · replace h := q_f h c1
      refine lv_aload_n hx hb dX9_showOnes_8 rfl (lv_at hl 0 rfl) ?_
      refine gt_X9_16 C0 hw hk iX9_showOnes_X9 (by decide +kernel) dX9_showOnes_9 ?_
      refine lv_iload_n hx hb dX9_showOnes_12 rfl (lv_at hl 1 rfl) ?_
      refine lv_iconst (v := (1 : Int32)) hx hb dX9_showOnes_13 (by decide) ?_
      obtain ⟨b2, h⟩ := q_if h
      refine q_iast (t0 := 0) C0 hw (mN_12 hk) (mE_12 hk) rfl b2 dX9_showOnes_14 (fun σ3 H locs e_σ3 hw => ?_)
      replace h := q_let_at e_σ3 h
      refine lv_iinc (v := (v1 + (1 : Int32))) (lv' := [(1, .int (v1 + (1 : Int32))), (0, .ref (ad k))]) hx hb dX9_showOnes_15 hl (k := 1) rfl rfl (by decide) rfl (fun ls hl => ?_)
      refine lv_goto (tgt := 2) hx hb dX9_showOnes_18 (by decide) ?_
      exact hrec2 (v1 + (1 : Int32)) σ3 _ _ _ hw (lv_sub hl [1, 0] rfl) h
set_option maxHeartbeats 4000000 in
set_option maxRecDepth 100000 in
theorem kX9_showOnes {k : Nat} (hk : mB N k) {σ : q_M} {out : q_M} (h : fX9_showOnes k σ = some out) : q_Mv l (gM D cI cJ cR ad adK adV N) yX9_showOnes wsX9_showOnes { frames := 0, cells := 0, slots := 0, locals := 0 } [.ref (ad k)] σ out := by
  refine q_Mv_of (cc := cX9_showOnes) (maxL := 2) (ret := none) (by decide) rfl (Nat.le_of_ble_eq_true rfl) ?_
  intro p e s m below meth c ls C0 hr hlk hl hw
  obtain ⟨hx, hb, hml, hown, hts⟩ := id C0
  replace hl : lv_has ls 2 [(0, .ref (ad k))] := hl
  unfold fX9_showOnes at h
  refine lv_iconst (v := (0 : Int32)) hx hb dX9_showOnes_0 (by decide) ?_
  refine lv_istore_n (lv' := [(1, .int (0 : Int32)), (0, .ref (ad k))]) hx hb dX9_showOnes_1 rfl hl (by decide) rfl (fun ls hl => ?_)
  exact tX9_showOnes_c2 hk C0 hr hlk q_FU (0 : Int32) σ _ _ _ hw (lv_sub hl [1, 0] rfl) h
-- X9_refuse refuse(I)I
theorem iX9_refuse_X9 : ∀ w ∈ wsX90, w ∈ wsX9_refuse := by decide +kernel
set_option maxHeartbeats 4000000 in
set_option maxRecDepth 100000 in
theorem kX9_refuse {k : Nat} {p1 : Int32} (hk : mB N k) {σ : q_M} {out : Int32 × q_M} (h : fX9_refuse k p1 σ = some out) : q_Mi l (gM D cI cJ cR ad adK adV N) yX9_refuse wsX9_refuse { frames := 0, cells := 0, slots := 0, locals := 0 } [.ref (ad k), .int p1] σ out := by
  refine q_Mi_of (cc := cX9_refuse) (maxL := 2) (ret := (some .int)) (by decide) rfl (Nat.le_of_ble_eq_true rfl) ?_
  intro p e s m below meth c ls C0 hr hlk hl hw
  obtain ⟨hx, hb, hml, hown, hts⟩ := id C0
  replace hl : lv_has ls 2 [(0, .ref (ad k)), (1, .int p1)] := hl
  unfold fX9_refuse at h
  refine lv_aload_n hx hb dX9_refuse_0 rfl (lv_at hl 0 rfl) ?_
  refine gt_X9_10 C0 hw hk iX9_refuse_X9 (by decide +kernel) dX9_refuse_1 ?_
  refine lv_iload_n hx hb dX9_refuse_4 rfl (lv_at hl 1 rfl) ?_
  refine lv_ineg hx hb dX9_refuse_5 ?_
  refine lv_dup2_11 hx hb dX9_refuse_6 rfl rfl ?_
  obtain ⟨b1, h⟩ := q_if h
  refine q_iald (t0 := 0) C0 hw (mN_10 hk) (mE_10 hk) rfl b1 dX9_refuse_7 ?_
  refine lv_iconst (v := (1 : Int32)) hx hb dX9_refuse_8 (by decide) ?_
  refine lv_iadd hx hb dX9_refuse_9 ?_
  obtain ⟨b2, h⟩ := q_if h
  refine q_iast (t0 := 0) C0 hw (mN_10 hk) (mE_10 hk) rfl b2 dX9_refuse_10 (fun σ3 H locs e_σ3 hw => ?_)
  replace h := q_let_at e_σ3 h
  refine lv_iload_n hx hb dX9_refuse_11 rfl (lv_at hl 1 rfl) ?_
  exact q_iret h C0 hr hlk hw dX9_refuse_12
-- X9_in in(JJJ)Z
set_option maxHeartbeats 4000000 in
set_option maxRecDepth 100000 in
theorem kX9_in {p0 : Int64} {p2 : Int64} {p4 : Int64}  {σ : q_M} {out : Int32 × q_M} (h : fX9_in p0 p2 p4 σ = some out) : q_Mi l (gM D cI cJ cR ad adK adV N) yX9_in wsX9_in { frames := 0, cells := 0, slots := 0, locals := 0 } [.long p0, .long p2, .long p4] σ out := by
  refine q_Mi_of (cc := cX9_in) (maxL := 6) (ret := (some .boolean)) (by decide) rfl (Nat.le_of_ble_eq_true rfl) ?_
  intro p e s m below meth c ls C0 hr hlk hl hw
  obtain ⟨hx, hb, hml, hown, hts⟩ := id C0
  replace hl : lv_has ls 6 [(0, .long p0), (2, .long p2), (4, .long p4)] := hl
  unfold fX9_in at h
  refine lv_lload_n hx hb dX9_in_0 rfl (lv_at hl 0 rfl) ?_
  refine lv_lload_n hx hb dX9_in_1 rfl (lv_at hl 1 rfl) ?_
  refine q_lcmp_lt (tgt := 17) C0 dX9_in_2 dX9_in_3 (by decide) (fun c1 => ?_) (fun c1 => ?_)
  · replace h := q_t h c1
    refine lv_iconst (v := (0 : Int32)) hx hb dX9_in_17 (by decide) ?_
    exact q_zret h C0 hr rfl hlk hw dX9_in_18
  · replace h := q_f h c1
    refine lv_lload_n hx hb dX9_in_6 rfl (lv_at hl 0 rfl) ?_
    refine lv_lload hx hb dX9_in_7 (lv_at hl 2 rfl) ?_
    refine q_lcmp_gt (tgt := 17) C0 dX9_in_9 dX9_in_10 (by decide) (fun c2 => ?_) (fun c2 => ?_)
    · replace h := q_f h c2
      refine lv_iconst (v := (0 : Int32)) hx hb dX9_in_17 (by decide) ?_
      exact q_zret h C0 hr rfl hlk hw dX9_in_18
    · replace h := q_t h c2
      refine lv_iconst (v := (1 : Int32)) hx hb dX9_in_13 (by decide) ?_
      refine lv_goto (tgt := 18) hx hb dX9_in_14 (by decide) ?_
      exact q_zret h C0 hr rfl hlk hw dX9_in_18
-- X9_many many()I
theorem iX9_many_X9 : ∀ w ∈ wsX90, w ∈ wsX9_many := by decide +kernel
set_option maxHeartbeats 4000000 in
set_option maxRecDepth 100000 in
theorem kX9_many {k : Nat} (hk : mB N k) {σ : q_M} {out : Int32 × q_M} (h : fX9_many k σ = some out) : q_Mi l (gM D cI cJ cR ad adK adV N) yX9_many wsX9_many { frames := 0, cells := 0, slots := 0, locals := 0 } [.ref (ad k)] σ out := by
  refine q_Mi_of (cc := cX9_many) (maxL := 1) (ret := (some .int)) (by decide) rfl (Nat.le_of_ble_eq_true rfl) ?_
  intro p e s m below meth c ls C0 hr hlk hl hw
  obtain ⟨hx, hb, hml, hown, hts⟩ := id C0
  replace hl : lv_has ls 1 [(0, .ref (ad k))] := hl
  unfold fX9_many at h
  refine lv_aload_n hx hb dX9_many_0 rfl (lv_at hl 0 rfl) ?_
  refine gt_X9_11 C0 hw hk iX9_many_X9 (by decide +kernel) dX9_many_1 ?_
  refine lv_aload_n hx hb dX9_many_4 rfl (lv_at hl 0 rfl) ?_
  refine gt_X9_11 C0 hw hk iX9_many_X9 (by decide +kernel) dX9_many_5 ?_
  refine lv_imul hx hb dX9_many_8 ?_
  refine lv_aload_n hx hb dX9_many_9 rfl (lv_at hl 0 rfl) ?_
  refine gt_X9_11 C0 hw hk iX9_many_X9 (by decide +kernel) dX9_many_10 ?_
  refine lv_imul hx hb dX9_many_13 ?_
  exact q_iret h C0 hr hlk hw dX9_many_14
-- X9_isCube isCube(I)Z
theorem eX9_in : yX9_in.cls ≠ "java/lang/invoke/MethodHandle" ∧ yX9_in.cls ≠ "java/lang/invoke/VarHandle" ∧ (parseMethodDescriptor yX9_in.desc).map (fun d => d.parameters.length) = some 3 := by decide +kernel
theorem eX9_many : yX9_many.cls = RX9 ∧ yX9_many.cls ≠ "java/lang/invoke/MethodHandle" ∧ yX9_many.cls ≠ "java/lang/invoke/VarHandle" ∧ (parseMethodDescriptor yX9_many.desc).map (fun d => d.parameters.length) = some 0 := by decide +kernel
set_option maxHeartbeats 4000000 in
set_option maxRecDepth 100000 in
theorem kX9_isCube {k : Nat} {p1 : Int32} (hk : mB N k) {σ : q_M} {out : Int32 × q_M} (h : fX9_isCube k p1 σ = some out) : q_Mi l (gM D cI cJ cR ad adK adV N) yX9_isCube wsX9_isCube { frames := 1, cells := 0, slots := 0, locals := 25 } [.ref (ad k), .int p1] σ out := by
  refine q_Mi_of (cc := cX9_isCube) (maxL := 2) (ret := (some .boolean)) (by decide) rfl (Nat.le_of_ble_eq_true rfl) ?_
  intro p e s m below meth c ls C0 hr hlk hl hw
  obtain ⟨hx, hb, hml, hown, hts⟩ := id C0
  replace hl : lv_has ls 2 [(0, .ref (ad k)), (1, .int p1)] := hl
  unfold fX9_isCube at h
  refine lv_iload_n hx hb dX9_isCube_0 rfl (lv_at hl 1 rfl) ?_
  refine lv_i2l hx hb dX9_isCube_1 rfl ?_
  refine lv_lconst (v := (0 : Int64)) hx hb dX9_isCube_2 (by decide) ?_
  refine lv_aload_n hx hb dX9_isCube_3 rfl (lv_at hl 0 rfl) ?_
  obtain ⟨o1, hco1, h⟩ := q_bind h
  refine q_calli hw (va_runV (As := []) (rest := [.long (0 : Int64), .long p1.toInt64]) C0 (kX9_many hk hco1 _) (cwV 0 hts gX9_isCube_X9_many rfl rfl rfl eX9_many ⟨(Nat.le_of_ble_eq_true rfl), (Nat.le_of_ble_eq_true rfl)⟩) ⟨q_blind, q_recv hw (mN_0 hk) (mE_0 hk) rfl, q_pre hw⟩ rfl rfl hl.1 rfl (lv_room (Nat.le_of_ble_eq_true rfl)) dX9_isCube_4 ⟨Nat.zero_le _, Nat.zero_le _⟩) (fun H locs hw => ?_)
  refine lv_iconst (v := (1 : Int32)) hx hb dX9_isCube_7 (by decide) ?_
  refine lv_isub hx hb dX9_isCube_8 ?_
  refine lv_i2l hx hb dX9_isCube_9 rfl ?_
  obtain ⟨o2, hco2, h⟩ := q_bind h
  refine q_calli hw (va_runS (As := [.long p1.toInt64, .long (0 : Int64), .long ((o1.1 - (1 : Int32)).toInt64)]) (rest := []) C0 (kX9_in hco2 _) (va_cwS 3 hts gX9_isCube_X9_in rfl rfl rfl eX9_in ⟨(Nat.le_of_ble_eq_true rfl), (Nat.le_of_ble_eq_true rfl)⟩) ⟨q_blind, q_pre hw⟩ rfl rfl hl.1 rfl (lv_room (Nat.le_of_ble_eq_true rfl)) dX9_isCube_10 ⟨Nat.zero_le _, Nat.zero_le _⟩) (fun H locs hw => ?_)
  obtain ⟨b3, h⟩ := q_if h
  exact q_zret h C0 hr (q_nz b3) hlk hw dX9_isCube_13
-- X9_isPiece isPiece(I)Z
theorem iX9_isPiece_X9 : ∀ w ∈ wsX90, w ∈ wsX9_isPiece := by decide +kernel
set_option maxHeartbeats 4000000 in
set_option maxRecDepth 100000 in
theorem kX9_isPiece {k : Nat} {p1 : Int32} (hk : mB N k) {σ : q_M} {out : Int32 × q_M} (h : fX9_isPiece k p1 σ = some out) : q_Mi l (gM D cI cJ cR ad adK adV N) yX9_isPiece wsX9_isPiece { frames := 1, cells := 0, slots := 0, locals := 25 } [.ref (ad k), .int p1] σ out := by
  refine q_Mi_of (cc := cX9_isPiece) (maxL := 2) (ret := (some .boolean)) (by decide) rfl (Nat.le_of_ble_eq_true rfl) ?_
  intro p e s m below meth c ls C0 hr hlk hl hw
  obtain ⟨hx, hb, hml, hown, hts⟩ := id C0
  replace hl : lv_has ls 2 [(0, .ref (ad k)), (1, .int p1)] := hl
  unfold fX9_isPiece at h
  refine lv_iload_n hx hb dX9_isPiece_0 rfl (lv_at hl 1 rfl) ?_
  refine lv_i2l hx hb dX9_isPiece_1 rfl ?_
  refine lv_lconst (v := (0 : Int64)) hx hb dX9_isPiece_2 (by decide) ?_
  refine lv_aload_n hx hb dX9_isPiece_3 rfl (lv_at hl 0 rfl) ?_
  refine gt_X9_13 C0 hw hk iX9_isPiece_X9 (by decide +kernel) dX9_isPiece_4 ?_
  refine lv_iconst (v := (1 : Int32)) hx hb dX9_isPiece_7 (by decide) ?_
  refine lv_isub hx hb dX9_isPiece_8 ?_
  refine lv_i2l hx hb dX9_isPiece_9 rfl ?_
  obtain ⟨o1, hco1, h⟩ := q_bind h
  refine q_calli hw (va_runS (As := [.long p1.toInt64, .long (0 : Int64), .long (((σ.1 k 13) - (1 : Int32)).toInt64)]) (rest := []) C0 (kX9_in hco1 _) (va_cwS 3 hts gX9_isPiece_X9_in rfl rfl rfl eX9_in ⟨(Nat.le_of_ble_eq_true rfl), (Nat.le_of_ble_eq_true rfl)⟩) ⟨q_blind, q_pre hw⟩ rfl rfl hl.1 rfl (lv_room (Nat.le_of_ble_eq_true rfl)) dX9_isPiece_10 ⟨Nat.zero_le _, Nat.zero_le _⟩) (fun H locs hw => ?_)
  obtain ⟨b2, h⟩ := q_if h
  exact q_zret h C0 hr (q_nz b2) hlk hw dX9_isPiece_13
-- X9_isOff isOff(I)Z
theorem iX9_isOff_X9 : ∀ w ∈ wsX90, w ∈ wsX9_isOff := by decide +kernel
set_option maxHeartbeats 4000000 in
set_option maxRecDepth 100000 in
theorem kX9_isOff {k : Nat} {p1 : Int32} (hk : mB N k) {σ : q_M} {out : Int32 × q_M} (h : fX9_isOff k p1 σ = some out) : q_Mi l (gM D cI cJ cR ad adK adV N) yX9_isOff wsX9_isOff { frames := 0, cells := 0, slots := 0, locals := 0 } [.ref (ad k), .int p1] σ out := by
  refine q_Mi_of (cc := cX9_isOff) (maxL := 2) (ret := (some .boolean)) (by decide) rfl (Nat.le_of_ble_eq_true rfl) ?_
  intro p e s m below meth c ls C0 hr hlk hl hw
  obtain ⟨hx, hb, hml, hown, hts⟩ := id C0
  replace hl : lv_has ls 2 [(0, .ref (ad k)), (1, .int p1)] := hl
  unfold fX9_isOff at h
  refine lv_aload_n hx hb dX9_isOff_0 rfl (lv_at hl 0 rfl) ?_
  refine gt_X9_15 C0 hw hk iX9_isOff_X9 (by decide +kernel) dX9_isOff_1 ?_
  refine lv_iload_n hx hb dX9_isOff_4 rfl (lv_at hl 1 rfl) ?_
  refine q_ishr (v := (q_sr (σ.1 k 15) p1)) C0 dX9_isOff_5 rfl ?_
  refine lv_iconst (v := (1 : Int32)) hx hb dX9_isOff_6 (by decide) ?_
  refine lv_iand hx hb dX9_isOff_7 ?_
  refine lv_if_eq (tgt := 15) hx hb dX9_isOff_8 (by decide) (fun c1 => ?_) (fun c1 => ?_)
  · replace h := q_t h c1
    refine lv_iconst (v := (0 : Int32)) hx hb dX9_isOff_15 (by decide) ?_
    exact q_zret h C0 hr rfl hlk hw dX9_isOff_16
  · replace h := q_f h c1
    refine lv_iconst (v := (1 : Int32)) hx hb dX9_isOff_11 (by decide) ?_
    refine lv_goto (tgt := 16) hx hb dX9_isOff_12 (by decide) ?_
    exact q_zret h C0 hr rfl hlk hw dX9_isOff_16
-- X9_block block()J
theorem iX9_block_X9 : ∀ w ∈ wsX90, w ∈ wsX9_block := by decide +kernel
set_option maxHeartbeats 4000000 in
set_option maxRecDepth 100000 in
theorem kX9_block {k : Nat} (hk : mB N k) {σ : q_M} {out : Int64 × q_M} (h : fX9_block k σ = some out) : q_Ml l (gM D cI cJ cR ad adK adV N) yX9_block wsX9_block { frames := 1, cells := 0, slots := 0, locals := 20 } [.ref (ad k)] σ out := by
  refine q_Ml_of (cc := cX9_block) (maxL := 1) (ret := (some .long)) (by decide) rfl (Nat.le_of_ble_eq_true rfl) ?_
  intro p e s m below meth c ls C0 hr hlk hl hw
  obtain ⟨hx, hb, hml, hown, hts⟩ := id C0
  replace hl : lv_has ls 1 [(0, .ref (ad k))] := hl
  unfold fX9_block at h
  refine lv_aload_n hx hb dX9_block_0 rfl (lv_at hl 0 rfl) ?_
  refine gt_X9_11 C0 hw hk iX9_block_X9 (by decide +kernel) dX9_block_1 ?_
  refine lv_iconst (v := (4 : Int32)) hx hb dX9_block_4 (by decide) ?_
  refine lv_icmp_ne (tgt := 14) hx hb dX9_block_5 (by decide) (fun c1 => ?_) (fun c1 => ?_)
  · replace h := q_f h c1
    refine lv_lconst (v := (1 : Int64)) hx hb dX9_block_14 (by decide) ?_
    refine lv_aload_n hx hb dX9_block_15 rfl (lv_at hl 0 rfl) ?_
    obtain ⟨o2, hco2, h⟩ := q_bind h
    refine q_calli hw (va_runV (As := []) (rest := [.long (1 : Int64)]) C0 (kX9_many hk hco2 _) (cwV 0 hts gX9_block_X9_many rfl rfl rfl eX9_many ⟨(Nat.le_of_ble_eq_true rfl), (Nat.le_of_ble_eq_true rfl)⟩) ⟨q_blind, q_recv hw (mN_0 hk) (mE_0 hk) rfl, q_pre hw⟩ rfl rfl hl.1 rfl (lv_room (Nat.le_of_ble_eq_true rfl)) dX9_block_16 ⟨Nat.zero_le _, Nat.zero_le _⟩) (fun H locs hw => ?_)
    refine lv_lshl (v := (q_shl (1 : Int64) o2.1)) hx hb dX9_block_19 rfl ?_
    refine lv_lconst (v := (1 : Int64)) hx hb dX9_block_20 (by decide) ?_
    refine lv_lsub hx hb dX9_block_21 ?_
    exact q_lret h C0 hr hlk hw dX9_block_22
  · replace h := q_t h c1
    refine lv_ldc2 (v := (-1 : Int64)) hx hb hown (hts (.constantLong RX9 100 (-1)) (by decide +kernel)) dX9_block_8 ?_
    refine lv_goto (tgt := 22) hx hb dX9_block_11 (by decide) ?_
    exact q_lret h C0 hr hlk hw dX9_block_22
-- X9_empty empty()J
theorem iX9_empty_X9 : ∀ w ∈ wsX90, w ∈ wsX9_empty := by decide +kernel
theorem eX9_block : yX9_block.cls = RX9 ∧ yX9_block.cls ≠ "java/lang/invoke/MethodHandle" ∧ yX9_block.cls ≠ "java/lang/invoke/VarHandle" ∧ (parseMethodDescriptor yX9_block.desc).map (fun d => d.parameters.length) = some 0 := by decide +kernel
set_option maxHeartbeats 4000000 in
set_option maxRecDepth 100000 in
theorem kX9_empty {k : Nat} (hk : mB N k) {σ : q_M} {out : Int64 × q_M} (h : fX9_empty k σ = some out) : q_Ml l (gM D cI cJ cR ad adK adV N) yX9_empty wsX9_empty { frames := 2, cells := 0, slots := 0, locals := 40 } [.ref (ad k)] σ out := by
  refine q_Ml_of (cc := cX9_empty) (maxL := 1) (ret := (some .long)) (by decide) rfl (Nat.le_of_ble_eq_true rfl) ?_
  intro p e s m below meth c ls C0 hr hlk hl hw
  obtain ⟨hx, hb, hml, hown, hts⟩ := id C0
  replace hl : lv_has ls 1 [(0, .ref (ad k))] := hl
  unfold fX9_empty at h
  refine lv_aload_n hx hb dX9_empty_0 rfl (lv_at hl 0 rfl) ?_
  obtain ⟨o1, hco1, h⟩ := q_bind h
  refine q_calll hw (va_runV (As := []) (rest := []) C0 (kX9_block hk hco1 _) (cwV 0 hts gX9_empty_X9_block rfl rfl rfl eX9_block ⟨(Nat.le_of_ble_eq_true rfl), (Nat.le_of_ble_eq_true rfl)⟩) ⟨q_blind, q_recv hw (mN_0 hk) (mE_0 hk) rfl, q_pre hw⟩ rfl rfl hl.1 rfl (lv_room (Nat.le_of_ble_eq_true rfl)) dX9_empty_1 ⟨Nat.zero_le _, Nat.zero_le _⟩) (fun H locs hw => ?_)
  refine lv_aload_n hx hb dX9_empty_4 rfl (lv_at hl 0 rfl) ?_
  refine gt_X9_12 C0 hw hk iX9_empty_X9 (by decide +kernel) dX9_empty_5 ?_
  refine lv_ldc2 (v := (-1 : Int64)) hx hb hown (hts (.constantLong RX9 100 (-1)) (by decide +kernel)) dX9_empty_8 ?_
  refine lv_lxor hx hb dX9_empty_11 ?_
  refine lv_land hx hb dX9_empty_12 ?_
  exact q_lret h C0 hr hlk hw dX9_empty_13
-- X9_has has(JI)Z
set_option maxHeartbeats 4000000 in
set_option maxRecDepth 100000 in
theorem kX9_has {p0 : Int64} {p2 : Int32}  {σ : q_M} {out : Int32 × q_M} (h : fX9_has p0 p2 σ = some out) : q_Mi l (gM D cI cJ cR ad adK adV N) yX9_has wsX9_has { frames := 0, cells := 0, slots := 0, locals := 0 } [.long p0, .int p2] σ out := by
  refine q_Mi_of (cc := cX9_has) (maxL := 3) (ret := (some .boolean)) (by decide) rfl (Nat.le_of_ble_eq_true rfl) ?_
  intro p e s m below meth c ls C0 hr hlk hl hw
  obtain ⟨hx, hb, hml, hown, hts⟩ := id C0
  replace hl : lv_has ls 3 [(0, .long p0), (2, .int p2)] := hl
  unfold fX9_has at h
  refine lv_lload_n hx hb dX9_has_0 rfl (lv_at hl 0 rfl) ?_
  refine lv_iload_n hx hb dX9_has_1 rfl (lv_at hl 1 rfl) ?_
  refine lv_lushr (v := (q_ushr p0 p2)) hx hb dX9_has_2 rfl ?_
  refine lv_lconst (v := (1 : Int64)) hx hb dX9_has_3 (by decide) ?_
  refine lv_land hx hb dX9_has_4 ?_
  refine lv_lconst (v := (0 : Int64)) hx hb dX9_has_5 (by decide) ?_
  refine q_lcmp_eq (tgt := 14) C0 dX9_has_6 dX9_has_7 (by decide) (fun c1 => ?_) (fun c1 => ?_)
  · replace h := q_t h c1
    refine lv_iconst (v := (0 : Int32)) hx hb dX9_has_14 (by decide) ?_
    exact q_zret h C0 hr rfl hlk hw dX9_has_15
  · replace h := q_f h c1
    refine lv_iconst (v := (1 : Int32)) hx hb dX9_has_10 (by decide) ?_
    refine lv_goto (tgt := 15) hx hb dX9_has_11 (by decide) ?_
    exact q_zret h C0 hr rfl hlk hw dX9_has_15
-- X9_bits bits(J)I
theorem eX9_has : yX9_has.cls ≠ "java/lang/invoke/MethodHandle" ∧ yX9_has.cls ≠ "java/lang/invoke/VarHandle" ∧ (parseMethodDescriptor yX9_has.desc).map (fun d => d.parameters.length) = some 2 := by decide +kernel
set_option maxHeartbeats 4000000 in
set_option maxRecDepth 100000 in
theorem tX9_bits_c4 {p0 : Int64}  (C0 : CallFix p m c cX9_bits 4 s args wsX9_bits RX9) (hr : meth.sig.returnType = (some .int)) (hlk : meth.locks = false) {out : Int32 × q_M}  : ∀ n : Nat, ∀ (v2 : Int32) (v3 : Int32) (σ : q_M) (H : Heap) (locs : List Loc) (ls : Array Slot), q_H (gM D cI cJ cR ad adK adV N) (q_A (gM D cI cJ cR ad adK adV N) s.heap.size) s σ H locs → lv_has ls 4 [(0, .long p0), (2, .int v2), (3, .int v3)] → fX9_bits_c4 p0 n v2 v3 σ = some out → W p l e { frames := 1, cells := 0, slots := 0, locals := 22 } s m args below meth c H locs 0 0 (MQ below (q_Ri (gM D cI cJ cR ad adK adV N) (q_A (gM D cI cJ cR ad adK adV N) s.heap.size) out) args s 0 0 (q_A (gM D cI cJ cR ad adK adV N) s.heap.size)) (F0 m 4 ls []) := by
  obtain ⟨hx, hb, hml, hown, hts⟩ := id C0
  intro n
  induction n with
  | zero =>
    intro v2 v3 σ H locs ls  hw hl h
    cases (show (none : Option (Int32 × q_M)) = some out from h)
  | succ n hrec4 =>
    intro v2 v3 σ H locs ls  hw hl h
    replace h : fX9_bits_c4b p0 (fX9_bits_c4 p0 n) v2 v3 σ = some out := h
    unfold fX9_bits_c4b at h
    refine lv_iload_n hx hb dX9_bits_4 rfl (lv_at hl 2 rfl) ?_
    refine lv_bipush (v := (64 : Int32)) hx hb dX9_bits_5 (by decide) ?_
    refine lv_icmp_ge (tgt := 32) hx hb dX9_bits_7 (by decide) (fun c1 => ?_) (fun c1 => ?_)
    · replace h := q_t h c1
      refine lv_iload_n hx hb dX9_bits_32 rfl (lv_at hl 1 rfl) ?_
      exact q_iret h C0 hr hlk hw dX9_bits_33
    · replace h := q_f h c1
      refine lv_iload_n hx hb dX9_bits_10 rfl (lv_at hl 1 rfl) ?_
      refine lv_lload_n hx hb dX9_bits_11 rfl (lv_at hl 0 rfl) ?_
      refine lv_iload_n hx hb dX9_bits_12 rfl (lv_at hl 2 rfl) ?_
      obtain ⟨o2, hco2, h⟩ := q_bind h
      refine q_calli hw (va_runS (As := [.long p0, .int v3]) (rest := [.int v2]) C0 (kX9_has hco2 _) (va_cwS 2 hts gX9_bits_X9_has rfl rfl rfl eX9_has ⟨(Nat.le_of_ble_eq_true rfl), (Nat.le_of_ble_eq_true rfl)⟩) ⟨q_blind, q_pre hw⟩ rfl rfl hl.1 rfl (lv_room (Nat.le_of_ble_eq_true rfl)) dX9_bits_13 ⟨Nat.zero_le _, Nat.zero_le _⟩) (fun H locs hw => ?_)
      refine lv_if_eq (tgt := 23) hx hb dX9_bits_16 (by decide) (fun c3 => ?_) (fun c3 => ?_)
      · replace h := q_t h c3
        refine lv_iconst (v := (0 : Int32)) hx hb dX9_bits_23 (by decide) ?_
        refine lv_iadd hx hb dX9_bits_24 ?_
        refine lv_istore_n (lv' := [(2, .int (v2 + (0 : Int32))), (0, .long p0), (3, .int v3)]) hx hb dX9_bits_25 rfl hl (by decide) rfl (fun ls hl => ?_)
        refine lv_iinc (v := (v3 + (1 : Int32))) (lv' := [(3, .int (v3 + (1 : Int32))), (2, .int (v2 + (0 : Int32))), (0, .long p0)]) hx hb dX9_bits_26 hl (k := 2) rfl rfl (by decide) rfl (fun ls hl => ?_)
        refine lv_goto (tgt := 4) hx hb dX9_bits_29 (by decide) ?_
        exact hrec4 (v2 + (0 : Int32)) (v3 + (1 : Int32)) o2.2 _ _ _ hw (lv_sub hl [2, 1, 0] rfl) h
      · replace h := q_f h c3
        refine lv_iconst (v := (1 : Int32)) hx hb dX9_bits_19 (by decide) ?_
        refine lv_goto (tgt := 24) hx hb dX9_bits_20 (by decide) ?_
        refine lv_iadd hx hb dX9_bits_24 ?_
        refine lv_istore_n (lv' := [(2, .int (v2 + (1 : Int32))), (0, .long p0), (3, .int v3)]) hx hb dX9_bits_25 rfl hl (by decide) rfl (fun ls hl => ?_)
        refine lv_iinc (v := (v3 + (1 : Int32))) (lv' := [(3, .int (v3 + (1 : Int32))), (2, .int (v2 + (1 : Int32))), (0, .long p0)]) hx hb dX9_bits_26 hl (k := 2) rfl rfl (by decide) rfl (fun ls hl => ?_)
        refine lv_goto (tgt := 4) hx hb dX9_bits_29 (by decide) ?_
        exact hrec4 (v2 + (1 : Int32)) (v3 + (1 : Int32)) o2.2 _ _ _ hw (lv_sub hl [2, 1, 0] rfl) h
set_option maxHeartbeats 4000000 in
set_option maxRecDepth 100000 in
theorem kX9_bits {p0 : Int64}  {σ : q_M} {out : Int32 × q_M} (h : fX9_bits p0 σ = some out) : q_Mi l (gM D cI cJ cR ad adK adV N) yX9_bits wsX9_bits { frames := 1, cells := 0, slots := 0, locals := 22 } [.long p0] σ out := by
  refine q_Mi_of (cc := cX9_bits) (maxL := 4) (ret := (some .int)) (by decide) rfl (Nat.le_of_ble_eq_true rfl) ?_
  intro p e s m below meth c ls C0 hr hlk hl hw
  obtain ⟨hx, hb, hml, hown, hts⟩ := id C0
  replace hl : lv_has ls 4 [(0, .long p0)] := hl
  unfold fX9_bits at h
  refine lv_iconst (v := (0 : Int32)) hx hb dX9_bits_0 (by decide) ?_
  refine lv_istore_n (lv' := [(2, .int (0 : Int32)), (0, .long p0)]) hx hb dX9_bits_1 rfl hl (by decide) rfl (fun ls hl => ?_)
  refine lv_iconst (v := (0 : Int32)) hx hb dX9_bits_2 (by decide) ?_
  refine lv_istore_n (lv' := [(3, .int (0 : Int32)), (2, .int (0 : Int32)), (0, .long p0)]) hx hb dX9_bits_3 rfl hl (by decide) rfl (fun ls hl => ?_)
  exact tX9_bits_c4 C0 hr hlk q_FU (0 : Int32) (0 : Int32) σ _ _ _ hw (lv_sub hl [2, 1, 0] rfl) h
-- X9_sideOf sideOf(II)I
theorem iX9_sideOf_X9 : ∀ w ∈ wsX90, w ∈ wsX9_sideOf := by decide +kernel
set_option maxHeartbeats 4000000 in
set_option maxRecDepth 100000 in
theorem kX9_sideOf {k : Nat} {p1 : Int32} {p2 : Int32} (hk : mB N k) {σ : q_M} {out : Int32 × q_M} (h : fX9_sideOf k p1 p2 σ = some out) : q_Mi l (gM D cI cJ cR ad adK adV N) yX9_sideOf wsX9_sideOf { frames := 0, cells := 0, slots := 0, locals := 0 } [.ref (ad k), .int p1, .int p2] σ out := by
  refine q_Mi_of (cc := cX9_sideOf) (maxL := 3) (ret := (some .int)) (by decide) rfl (Nat.le_of_ble_eq_true rfl) ?_
  intro p e s m below meth c ls C0 hr hlk hl hw
  obtain ⟨hx, hb, hml, hown, hts⟩ := id C0
  replace hl : lv_has ls 3 [(0, .ref (ad k)), (1, .int p1), (2, .int p2)] := hl
  unfold fX9_sideOf at h
  refine lv_iload_n hx hb dX9_sideOf_0 rfl (lv_at hl 2 rfl) ?_
  refine lv_if_ne (tgt := 13) hx hb dX9_sideOf_1 (by decide) (fun c1 => ?_) (fun c1 => ?_)
  · replace h := q_f h c1
    refine lv_iload_n hx hb dX9_sideOf_13 rfl (lv_at hl 2 rfl) ?_
    refine lv_iconst (v := (1 : Int32)) hx hb dX9_sideOf_14 (by decide) ?_
    refine lv_icmp_ne (tgt := 32) hx hb dX9_sideOf_15 (by decide) (fun c2 => ?_) (fun c2 => ?_)
    · replace h := q_f h c2
      refine lv_iload_n hx hb dX9_sideOf_32 rfl (lv_at hl 1 rfl) ?_
      refine lv_aload_n hx hb dX9_sideOf_33 rfl (lv_at hl 0 rfl) ?_
      refine gt_X9_11 C0 hw hk iX9_sideOf_X9 (by decide +kernel) dX9_sideOf_34 ?_
      refine lv_aload_n hx hb dX9_sideOf_37 rfl (lv_at hl 0 rfl) ?_
      refine gt_X9_11 C0 hw hk iX9_sideOf_X9 (by decide +kernel) dX9_sideOf_38 ?_
      refine lv_imul hx hb dX9_sideOf_41 ?_
      obtain ⟨z3, h⟩ := q_if h
      refine lv_idiv hx hb dX9_sideOf_42 z3 ?_
      exact q_iret h C0 hr hlk hw dX9_sideOf_43
    · replace h := q_t h c2
      refine lv_iload_n hx hb dX9_sideOf_18 rfl (lv_at hl 1 rfl) ?_
      refine lv_aload_n hx hb dX9_sideOf_19 rfl (lv_at hl 0 rfl) ?_
      refine gt_X9_11 C0 hw hk iX9_sideOf_X9 (by decide +kernel) dX9_sideOf_20 ?_
      obtain ⟨z4, h⟩ := q_if h
      refine lv_idiv hx hb dX9_sideOf_23 z4 ?_
      refine lv_aload_n hx hb dX9_sideOf_24 rfl (lv_at hl 0 rfl) ?_
      refine gt_X9_11 C0 hw hk iX9_sideOf_X9 (by decide +kernel) dX9_sideOf_25 ?_
      obtain ⟨z5, h⟩ := q_if h
      refine lv_irem hx hb dX9_sideOf_28 z5 ?_
      refine lv_goto (tgt := 43) hx hb dX9_sideOf_29 (by decide) ?_
      exact q_iret h C0 hr hlk hw dX9_sideOf_43
  · replace h := q_t h c1
    refine lv_iload_n hx hb dX9_sideOf_4 rfl (lv_at hl 1 rfl) ?_
    refine lv_aload_n hx hb dX9_sideOf_5 rfl (lv_at hl 0 rfl) ?_
    refine gt_X9_11 C0 hw hk iX9_sideOf_X9 (by decide +kernel) dX9_sideOf_6 ?_
    obtain ⟨z6, h⟩ := q_if h
    refine lv_irem hx hb dX9_sideOf_9 z6 ?_
    refine lv_goto (tgt := 43) hx hb dX9_sideOf_10 (by decide) ?_
    exact q_iret h C0 hr hlk hw dX9_sideOf_43
-- X9_from from(II)I
theorem iX9_from_X9 : ∀ w ∈ wsX90, w ∈ wsX9_from := by decide +kernel
theorem eX9_sideOf : yX9_sideOf.cls = RX9 ∧ yX9_sideOf.cls ≠ "java/lang/invoke/MethodHandle" ∧ yX9_sideOf.cls ≠ "java/lang/invoke/VarHandle" ∧ (parseMethodDescriptor yX9_sideOf.desc).map (fun d => d.parameters.length) = some 2 := by decide +kernel
set_option maxHeartbeats 4000000 in
set_option maxRecDepth 100000 in
theorem tX9_from_c54 {k : Nat} {p1 : Int32} {p2 : Int32} (hk : mB N k) (C0 : CallFix p m c cX9_from 5 s args wsX9_from RX9) (hr : meth.sig.returnType = (some .int)) (hlk : meth.locks = false) {out : Int32 × q_M}  : ∀ (v3 : Int32) (s0 : Int32) (σ : q_M) (H : Heap) (locs : List Loc) (ls : Array Slot), q_H (gM D cI cJ cR ad adK adV N) (q_A (gM D cI cJ cR ad adK adV N) s.heap.size) s σ H locs → lv_has ls 5 [(0, .ref (ad k)), (1, .int p1), (2, .int p2), (3, .int v3)] → fX9_from_c54 k p1 p2 v3 s0 σ = some out → W p l e { frames := 1, cells := 0, slots := 0, locals := 22 } s m args below meth c H locs 0 0 (MQ below (q_Ri (gM D cI cJ cR ad adK adV N) (q_A (gM D cI cJ cR ad adK adV N) s.heap.size) out) args s 0 0 (q_A (gM D cI cJ cR ad adK adV N) s.heap.size)) (F0 m 54 ls [.int s0]) := by
  obtain ⟨hx, hb, hml, hown, hts⟩ := id C0
  intro v3 s0 σ H locs ls  hw hl h
  unfold fX9_from_c54 at h
  refine lv_istore (lv' := [(4, .int s0), (0, .ref (ad k)), (1, .int p1), (2, .int p2), (3, .int v3)]) hx hb dX9_from_54 hl (by decide) rfl (fun ls hl => ?_)
  refine lv_iload_n hx hb dX9_from_56 rfl (lv_at hl 4 rfl) ?_
  refine lv_if_lt (tgt := 68) hx hb dX9_from_57 (by decide) (fun c1 => ?_) (fun c1 => ?_)
  · replace h := q_t h c1
    refine lv_iconst (v := (-1 : Int32)) hx hb dX9_from_68 (by decide) ?_
    refine lv_goto (tgt := 89) hx hb dX9_from_69 (by decide) ?_
    exact q_iret h C0 hr hlk hw dX9_from_89
  · replace h := q_f h c1
    refine lv_iload_n hx hb dX9_from_60 rfl (lv_at hl 4 rfl) ?_
    refine lv_aload_n hx hb dX9_from_61 rfl (lv_at hl 1 rfl) ?_
    refine gt_X9_11 C0 hw hk iX9_from_X9 (by decide +kernel) dX9_from_62 ?_
    refine lv_icmp_lt (tgt := 72) hx hb dX9_from_65 (by decide) (fun c2 => ?_) (fun c2 => ?_)
    · replace h := q_t h c2
      refine lv_iload_n hx hb dX9_from_72 rfl (lv_at hl 3 rfl) ?_
      refine lv_iconst (v := (2 : Int32)) hx hb dX9_from_73 (by decide) ?_
      refine lv_irem hx hb dX9_from_74 (by decide) ?_
      refine lv_if_ne (tgt := 85) hx hb dX9_from_75 (by decide) (fun c3 => ?_) (fun c3 => ?_)
      · replace h := q_f h c3
        refine lv_iload_n hx hb dX9_from_85 rfl (lv_at hl 2 rfl) ?_
        refine lv_iload hx hb dX9_from_86 (lv_at hl 0 rfl) ?_
        refine lv_isub hx hb dX9_from_88 ?_
        exact q_iret h C0 hr hlk hw dX9_from_89
      · replace h := q_t h c3
        refine lv_iload_n hx hb dX9_from_78 rfl (lv_at hl 2 rfl) ?_
        refine lv_iload hx hb dX9_from_79 (lv_at hl 0 rfl) ?_
        refine lv_iadd hx hb dX9_from_81 ?_
        refine lv_goto (tgt := 89) hx hb dX9_from_82 (by decide) ?_
        exact q_iret h C0 hr hlk hw dX9_from_89
    · replace h := q_f h c2
      refine lv_iconst (v := (-1 : Int32)) hx hb dX9_from_68 (by decide) ?_
      refine lv_goto (tgt := 89) hx hb dX9_from_69 (by decide) ?_
      exact q_iret h C0 hr hlk hw dX9_from_89
set_option maxHeartbeats 4000000 in
set_option maxRecDepth 100000 in
theorem tX9_from_c19 {k : Nat} {p1 : Int32} {p2 : Int32} (hk : mB N k) (C0 : CallFix p m c cX9_from 5 s args wsX9_from RX9) (hr : meth.sig.returnType = (some .int)) (hlk : meth.locks = false) {out : Int32 × q_M}  : ∀ (s0 : Int32) (s1 : Int32) (σ : q_M) (H : Heap) (locs : List Loc) (ls : Array Slot), q_H (gM D cI cJ cR ad adK adV N) (q_A (gM D cI cJ cR ad adK adV N) s.heap.size) s σ H locs → lv_has ls 5 [(0, .ref (ad k)), (1, .int p1), (2, .int p2)] → fX9_from_c19 k p1 p2 s0 s1 σ = some out → W p l e { frames := 1, cells := 0, slots := 0, locals := 22 } s m args below meth c H locs 0 0 (MQ below (q_Ri (gM D cI cJ cR ad adK adV N) (q_A (gM D cI cJ cR ad adK adV N) s.heap.size) out) args s 0 0 (q_A (gM D cI cJ cR ad adK adV N) s.heap.size)) (F0 m 19 ls [.int s0, .int s1]) := by
  obtain ⟨hx, hb, hml, hown, hts⟩ := id C0
  intro s0 s1 σ H locs ls  hw hl h
  unfold fX9_from_c19 at h
  refine lv_iadd hx hb dX9_from_19 ?_
  refine lv_istore_n (lv' := [(3, .int (s1 + s0)), (0, .ref (ad k)), (1, .int p1), (2, .int p2)]) hx hb dX9_from_20 rfl hl (by decide) rfl (fun ls hl => ?_)
  refine lv_iload_n hx hb dX9_from_21 rfl (lv_at hl 3 rfl) ?_
  refine lv_iconst (v := (2 : Int32)) hx hb dX9_from_22 (by decide) ?_
  refine lv_idiv hx hb dX9_from_23 (by decide) ?_
  refine lv_if_ne (tgt := 31) hx hb dX9_from_24 (by decide) (fun c1 => ?_) (fun c1 => ?_)
  · replace h := q_f h c1
    refine lv_iload_n hx hb dX9_from_31 rfl (lv_at hl 3 rfl) ?_
    refine lv_iconst (v := (2 : Int32)) hx hb dX9_from_32 (by decide) ?_
    refine lv_idiv hx hb dX9_from_33 (by decide) ?_
    refine lv_iconst (v := (1 : Int32)) hx hb dX9_from_34 (by decide) ?_
    refine lv_icmp_ne (tgt := 45) hx hb dX9_from_35 (by decide) (fun c2 => ?_) (fun c2 => ?_)
    · replace h := q_f h c2
      refine lv_aload_n hx hb dX9_from_45 rfl (lv_at hl 1 rfl) ?_
      refine gt_X9_11 C0 hw hk iX9_from_X9 (by decide +kernel) dX9_from_46 ?_
      refine lv_aload_n hx hb dX9_from_49 rfl (lv_at hl 1 rfl) ?_
      refine gt_X9_11 C0 hw hk iX9_from_X9 (by decide +kernel) dX9_from_50 ?_
      refine lv_imul hx hb dX9_from_53 ?_
      exact tX9_from_c54 hk C0 hr hlk (s1 + s0) ((σ.1 k 11) * (σ.1 k 11)) σ _ _ _ hw (lv_sub hl [1, 2, 3, 0] rfl) h
    · replace h := q_t h c2
      refine lv_aload_n hx hb dX9_from_38 rfl (lv_at hl 1 rfl) ?_
      refine gt_X9_11 C0 hw hk iX9_from_X9 (by decide +kernel) dX9_from_39 ?_
      refine lv_goto (tgt := 54) hx hb dX9_from_42 (by decide) ?_
      exact tX9_from_c54 hk C0 hr hlk (s1 + s0) (σ.1 k 11) σ _ _ _ hw (lv_sub hl [1, 2, 3, 0] rfl) h
  · replace h := q_t h c1
    refine lv_iconst (v := (1 : Int32)) hx hb dX9_from_27 (by decide) ?_
    refine lv_goto (tgt := 54) hx hb dX9_from_28 (by decide) ?_
    exact tX9_from_c54 hk C0 hr hlk (s1 + s0) (1 : Int32) σ _ _ _ hw (lv_sub hl [1, 2, 3, 0] rfl) h
set_option maxHeartbeats 4000000 in
set_option maxRecDepth 100000 in
theorem kX9_from {k : Nat} {p1 : Int32} {p2 : Int32} (hk : mB N k) {σ : q_M} {out : Int32 × q_M} (h : fX9_from k p1 p2 σ = some out) : q_Mi l (gM D cI cJ cR ad adK adV N) yX9_from wsX9_from { frames := 1, cells := 0, slots := 0, locals := 22 } [.ref (ad k), .int p1, .int p2] σ out := by
  refine q_Mi_of (cc := cX9_from) (maxL := 5) (ret := (some .int)) (by decide) rfl (Nat.le_of_ble_eq_true rfl) ?_
  intro p e s m below meth c ls C0 hr hlk hl hw
  obtain ⟨hx, hb, hml, hown, hts⟩ := id C0
  replace hl : lv_has ls 5 [(0, .ref (ad k)), (1, .int p1), (2, .int p2)] := hl
  unfold fX9_from at h
  refine lv_aload_n hx hb dX9_from_0 rfl (lv_at hl 0 rfl) ?_
  refine lv_iload_n hx hb dX9_from_1 rfl (lv_at hl 1 rfl) ?_
  refine lv_iload_n hx hb dX9_from_2 rfl (lv_at hl 2 rfl) ?_
  refine lv_iconst (v := (2 : Int32)) hx hb dX9_from_3 (by decide) ?_
  refine lv_idiv hx hb dX9_from_4 (by decide) ?_
  obtain ⟨o1, hco1, h⟩ := q_bind h
  refine q_calli hw (va_runV (As := [.int p1, .int (p2 / (2 : Int32))]) (rest := []) C0 (kX9_sideOf hk hco1 _) (cwV 2 hts gX9_from_X9_sideOf rfl rfl rfl eX9_sideOf ⟨(Nat.le_of_ble_eq_true rfl), (Nat.le_of_ble_eq_true rfl)⟩) ⟨q_blind, q_recv hw (mN_0 hk) (mE_0 hk) rfl, q_pre hw⟩ rfl rfl hl.1 rfl (lv_room (Nat.le_of_ble_eq_true rfl)) dX9_from_5 ⟨Nat.zero_le _, Nat.zero_le _⟩) (fun H locs hw => ?_)
  refine lv_iload_n hx hb dX9_from_8 rfl (lv_at hl 2 rfl) ?_
  refine lv_iconst (v := (2 : Int32)) hx hb dX9_from_9 (by decide) ?_
  refine lv_irem hx hb dX9_from_10 (by decide) ?_
  refine lv_if_ne (tgt := 18) hx hb dX9_from_11 (by decide) (fun c2 => ?_) (fun c2 => ?_)
  · replace h := q_f h c2
    refine lv_iconst (v := (-1 : Int32)) hx hb dX9_from_18 (by decide) ?_
    exact tX9_from_c19 hk C0 hr hlk (-1 : Int32) o1.1 o1.2 _ _ _ hw (lv_sub hl [0, 1, 2] rfl) h
  · replace h := q_t h c2
    refine lv_iconst (v := (1 : Int32)) hx hb dX9_from_14 (by decide) ?_
    refine lv_goto (tgt := 19) hx hb dX9_from_15 (by decide) ?_
    exact tX9_from_c19 hk C0 hr hlk (1 : Int32) o1.1 o1.2 _ _ _ hw (lv_sub hl [0, 1, 2] rfl) h
-- X9_row row(III)I
theorem iX9_row_X9 : ∀ w ∈ wsX90, w ∈ wsX9_row := by decide +kernel
theorem eX9_refuse : yX9_refuse.cls = RX9 ∧ yX9_refuse.cls ≠ "java/lang/invoke/MethodHandle" ∧ yX9_refuse.cls ≠ "java/lang/invoke/VarHandle" ∧ (parseMethodDescriptor yX9_refuse.desc).map (fun d => d.parameters.length) = some 1 := by decide +kernel
set_option maxHeartbeats 4000000 in
set_option maxRecDepth 100000 in
theorem tX9_row_c67 {k : Nat} {p1 : Int32} {p2 : Int32} {p3 : Int32} (hk : mB N k) (C0 : CallFix p m c cX9_row 5 s args wsX9_row RX9) (hr : meth.sig.returnType = (some .int)) (hlk : meth.locks = false) {out : Int32 × q_M}  : ∀ n : Nat, ∀ (v4 : Int32) (σ : q_M) (H : Heap) (locs : List Loc) (ls : Array Slot), q_H (gM D cI cJ cR ad adK adV N) (q_A (gM D cI cJ cR ad adK adV N) s.heap.size) s σ H locs → lv_has ls 5 [(0, .ref (ad k)), (1, .int p1), (4, .int v4)] → fX9_row_c67 k p1 p2 p3 n v4 σ = some out → W p l e { frames := 1, cells := 0, slots := 0, locals := 25 } s m args below meth c H locs 0 0 (MQ below (q_Ri (gM D cI cJ cR ad adK adV N) (q_A (gM D cI cJ cR ad adK adV N) s.heap.size) out) args s 0 0 (q_A (gM D cI cJ cR ad adK adV N) s.heap.size)) (F0 m 67 ls []) := by
  obtain ⟨hx, hb, hml, hown, hts⟩ := id C0
  intro n
  induction n with
  | zero =>
    intro v4 σ H locs ls  hw hl h
    cases (show (none : Option (Int32 × q_M)) = some out from h)
  | succ n hrec67 =>
    intro v4 σ H locs ls  hw hl h
    replace h : fX9_row_c67b k p1 p2 p3 (fX9_row_c67 k p1 p2 p3 n) v4 σ = some out := h
    unfold fX9_row_c67b at h
    refine lv_iload hx hb dX9_row_67 (lv_at hl 2 rfl) ?_
    refine lv_bipush (v := (40 : Int32)) hx hb dX9_row_69 (by decide) ?_
    refine lv_icmp_ge (tgt := 90) hx hb dX9_row_71 (by decide) (fun c1 => ?_) (fun c1 => ?_)
    · replace h := q_t h c1
      refine lv_iconst (v := (1 : Int32)) hx hb dX9_row_90 (by decide) ?_
      exact q_iret h C0 hr hlk hw dX9_row_91
    · replace h := q_f h c1
      refine lv_aload_n hx hb dX9_row_74 rfl (lv_at hl 0 rfl) ?_
      refine gt_X9_3 C0 hw hk iX9_row_X9 (by decide +kernel) dX9_row_75 ?_
      refine lv_iload_n hx hb dX9_row_78 rfl (lv_at hl 1 rfl) ?_
      obtain ⟨b2, h⟩ := q_if h
      refine m_aald C0 hw hk b2 dX9_row_79 ?_
      refine lv_iload hx hb dX9_row_80 (lv_at hl 2 rfl) ?_
      refine lv_lconst (v := (0 : Int64)) hx hb dX9_row_82 (by decide) ?_
      obtain ⟨b3, h⟩ := q_if h
      refine q_last (t0 := 1) C0 hw (mN_r ⟨hk, b2⟩) (mE_r ⟨hk, b2⟩) rfl b3 dX9_row_83 (fun σ4 H locs e_σ4 hw => ?_)
      replace h := q_let_at e_σ4 h
      refine lv_iinc (v := (v4 + (1 : Int32))) (lv' := [(4, .int (v4 + (1 : Int32))), (0, .ref (ad k)), (1, .int p1)]) hx hb dX9_row_84 hl (k := 2) rfl rfl (by decide) rfl (fun ls hl => ?_)
      refine lv_goto (tgt := 67) hx hb dX9_row_87 (by decide) ?_
      exact hrec67 (v4 + (1 : Int32)) σ4 _ _ _ hw (lv_sub hl [1, 2, 0] rfl) h
set_option maxHeartbeats 4000000 in
set_option maxRecDepth 100000 in
theorem kX9_row {k : Nat} {p1 : Int32} {p2 : Int32} {p3 : Int32} (hk : mB N k) {σ : q_M} {out : Int32 × q_M} (h : fX9_row k p1 p2 p3 σ = some out) : q_Mi l (gM D cI cJ cR ad adK adV N) yX9_row wsX9_row { frames := 1, cells := 0, slots := 0, locals := 25 } [.ref (ad k), .int p1, .int p2, .int p3] σ out := by
  refine q_Mi_of (cc := cX9_row) (maxL := 5) (ret := (some .int)) (by decide) rfl (Nat.le_of_ble_eq_true rfl) ?_
  intro p e s m below meth c ls C0 hr hlk hl hw
  obtain ⟨hx, hb, hml, hown, hts⟩ := id C0
  replace hl : lv_has ls 5 [(0, .ref (ad k)), (1, .int p1), (2, .int p2), (3, .int p3)] := hl
  unfold fX9_row at h
  refine lv_iload_n hx hb dX9_row_0 rfl (lv_at hl 1 rfl) ?_
  refine lv_i2l hx hb dX9_row_1 rfl ?_
  refine lv_lconst (v := (0 : Int64)) hx hb dX9_row_2 (by decide) ?_
  refine lv_ldc2 (v := (7 : Int64)) hx hb hown (hts (.constantLong RX9 118 (7)) (by decide +kernel)) dX9_row_3 ?_
  obtain ⟨o1, hco1, h⟩ := q_bind h
  refine q_calli hw (va_runS (As := [.long p1.toInt64, .long (0 : Int64), .long (7 : Int64)]) (rest := []) C0 (kX9_in hco1 _) (va_cwS 3 hts gX9_row_X9_in rfl rfl rfl eX9_in ⟨(Nat.le_of_ble_eq_true rfl), (Nat.le_of_ble_eq_true rfl)⟩) ⟨q_blind, q_pre hw⟩ rfl rfl hl.1 rfl (lv_room (Nat.le_of_ble_eq_true rfl)) dX9_row_6 ⟨Nat.zero_le _, Nat.zero_le _⟩) (fun H locs hw => ?_)
  refine lv_if_eq (tgt := 36) hx hb dX9_row_9 (by decide) (fun c2 => ?_) (fun c2 => ?_)
  · replace h := q_t h c2
    refine lv_aload_n hx hb dX9_row_36 rfl (lv_at hl 0 rfl) ?_
    refine lv_bipush (v := (-2 : Int32)) hx hb dX9_row_37 (by decide) ?_
    obtain ⟨o3, hco3, h⟩ := q_bind h
    refine q_calli hw (va_runV (As := [.int (-2 : Int32)]) (rest := []) C0 (kX9_refuse hk hco3 _) (cwV 1 hts gX9_row_X9_refuse rfl rfl rfl eX9_refuse ⟨(Nat.le_of_ble_eq_true rfl), (Nat.le_of_ble_eq_true rfl)⟩) ⟨q_blind, q_recv hw (mN_0 hk) (mE_0 hk) rfl, q_pre hw⟩ rfl rfl hl.1 rfl (lv_room (Nat.le_of_ble_eq_true rfl)) dX9_row_39 ⟨Nat.zero_le _, Nat.zero_le _⟩) (fun H locs hw => ?_)
    exact q_iret h C0 hr hlk hw dX9_row_42
  · replace h := q_f h c2
    refine lv_iload_n hx hb dX9_row_12 rfl (lv_at hl 2 rfl) ?_
    refine lv_i2l hx hb dX9_row_13 rfl ?_
    refine lv_lconst (v := (0 : Int64)) hx hb dX9_row_14 (by decide) ?_
    refine lv_ldc2 (v := (4 : Int64)) hx hb hown (hts (.constantLong RX9 120 (4)) (by decide +kernel)) dX9_row_15 ?_
    obtain ⟨o4, hco4, h⟩ := q_bind h
    refine q_calli hw (va_runS (As := [.long p2.toInt64, .long (0 : Int64), .long (4 : Int64)]) (rest := []) C0 (kX9_in hco4 _) (va_cwS 3 hts gX9_row_X9_in rfl rfl rfl eX9_in ⟨(Nat.le_of_ble_eq_true rfl), (Nat.le_of_ble_eq_true rfl)⟩) ⟨q_blind, q_pre hw⟩ rfl rfl hl.1 rfl (lv_room (Nat.le_of_ble_eq_true rfl)) dX9_row_18 ⟨Nat.zero_le _, Nat.zero_le _⟩) (fun H locs hw => ?_)
    refine lv_if_eq (tgt := 36) hx hb dX9_row_21 (by decide) (fun c5 => ?_) (fun c5 => ?_)
    · replace h := q_t h c5
      refine lv_aload_n hx hb dX9_row_36 rfl (lv_at hl 0 rfl) ?_
      refine lv_bipush (v := (-2 : Int32)) hx hb dX9_row_37 (by decide) ?_
      obtain ⟨o6, hco6, h⟩ := q_bind h
      refine q_calli hw (va_runV (As := [.int (-2 : Int32)]) (rest := []) C0 (kX9_refuse hk hco6 _) (cwV 1 hts gX9_row_X9_refuse rfl rfl rfl eX9_refuse ⟨(Nat.le_of_ble_eq_true rfl), (Nat.le_of_ble_eq_true rfl)⟩) ⟨q_blind, q_recv hw (mN_0 hk) (mE_0 hk) rfl, q_pre hw⟩ rfl rfl hl.1 rfl (lv_room (Nat.le_of_ble_eq_true rfl)) dX9_row_39 ⟨Nat.zero_le _, Nat.zero_le _⟩) (fun H locs hw => ?_)
      exact q_iret h C0 hr hlk hw dX9_row_42
    · replace h := q_f h c5
      refine lv_iload_n hx hb dX9_row_24 rfl (lv_at hl 3 rfl) ?_
      refine lv_i2l hx hb dX9_row_25 rfl ?_
      refine lv_lconst (v := (0 : Int64)) hx hb dX9_row_26 (by decide) ?_
      refine lv_ldc2 (v := (40 : Int64)) hx hb hown (hts (.constantLong RX9 122 (40)) (by decide +kernel)) dX9_row_27 ?_
      obtain ⟨o7, hco7, h⟩ := q_bind h
      refine q_calli hw (va_runS (As := [.long p3.toInt64, .long (0 : Int64), .long (40 : Int64)]) (rest := []) C0 (kX9_in hco7 _) (va_cwS 3 hts gX9_row_X9_in rfl rfl rfl eX9_in ⟨(Nat.le_of_ble_eq_true rfl), (Nat.le_of_ble_eq_true rfl)⟩) ⟨q_blind, q_pre hw⟩ rfl rfl hl.1 rfl (lv_room (Nat.le_of_ble_eq_true rfl)) dX9_row_30 ⟨Nat.zero_le _, Nat.zero_le _⟩) (fun H locs hw => ?_)
      refine lv_if_ne (tgt := 43) hx hb dX9_row_33 (by decide) (fun c8 => ?_) (fun c8 => ?_)
      · replace h := q_f h c8
        refine lv_aload_n hx hb dX9_row_43 rfl (lv_at hl 0 rfl) ?_
        refine gt_X9_0 C0 hw hk iX9_row_X9 (by decide +kernel) dX9_row_44 ?_
        refine lv_iload_n hx hb dX9_row_47 rfl (lv_at hl 1 rfl) ?_
        refine lv_iconst (v := (1 : Int32)) hx hb dX9_row_48 (by decide) ?_
        obtain ⟨b9, h⟩ := q_if h
        refine q_iast (t0 := 0) C0 hw (mN_1 hk) (mE_1 hk) rfl b9 dX9_row_49 (fun σ10 H locs e_σ10 hw => ?_)
        replace h := q_let_at e_σ10 h
        refine lv_aload_n hx hb dX9_row_50 rfl (lv_at hl 0 rfl) ?_
        refine gt_X9_1 C0 hw hk iX9_row_X9 (by decide +kernel) dX9_row_51 ?_
        refine lv_iload_n hx hb dX9_row_54 rfl (lv_at hl 1 rfl) ?_
        refine lv_iload_n hx hb dX9_row_55 rfl (lv_at hl 2 rfl) ?_
        obtain ⟨b11, h⟩ := q_if h
        refine q_iast (t0 := 0) C0 hw (mN_2 hk) (mE_2 hk) rfl b11 dX9_row_56 (fun σ12 H locs e_σ12 hw => ?_)
        replace h := q_let_at e_σ12 h
        refine lv_aload_n hx hb dX9_row_57 rfl (lv_at hl 0 rfl) ?_
        refine gt_X9_2 C0 hw hk iX9_row_X9 (by decide +kernel) dX9_row_58 ?_
        refine lv_iload_n hx hb dX9_row_61 rfl (lv_at hl 1 rfl) ?_
        refine lv_iload_n hx hb dX9_row_62 rfl (lv_at hl 3 rfl) ?_
        obtain ⟨b13, h⟩ := q_if h
        refine q_iast (t0 := 0) C0 hw (mN_3 hk) (mE_3 hk) rfl b13 dX9_row_63 (fun σ14 H locs e_σ14 hw => ?_)
        replace h := q_let_at e_σ14 h
        refine lv_iconst (v := (0 : Int32)) hx hb dX9_row_64 (by decide) ?_
        refine lv_istore (lv' := [(4, .int (0 : Int32)), (0, .ref (ad k)), (1, .int p1), (2, .int p2), (3, .int p3)]) hx hb dX9_row_65 hl (by decide) rfl (fun ls hl => ?_)
        exact tX9_row_c67 hk C0 hr hlk q_FU (0 : Int32) σ14 _ _ _ hw (lv_sub hl [1, 2, 0] rfl) h
      · replace h := q_t h c8
        refine lv_aload_n hx hb dX9_row_36 rfl (lv_at hl 0 rfl) ?_
        refine lv_bipush (v := (-2 : Int32)) hx hb dX9_row_37 (by decide) ?_
        obtain ⟨o15, hco15, h⟩ := q_bind h
        refine q_calli hw (va_runV (As := [.int (-2 : Int32)]) (rest := []) C0 (kX9_refuse hk hco15 _) (cwV 1 hts gX9_row_X9_refuse rfl rfl rfl eX9_refuse ⟨(Nat.le_of_ble_eq_true rfl), (Nat.le_of_ble_eq_true rfl)⟩) ⟨q_blind, q_recv hw (mN_0 hk) (mE_0 hk) rfl, q_pre hw⟩ rfl rfl hl.1 rfl (lv_room (Nat.le_of_ble_eq_true rfl)) dX9_row_39 ⟨Nat.zero_le _, Nat.zero_le _⟩) (fun H locs hw => ?_)
        exact q_iret h C0 hr hlk hw dX9_row_42
-- X9_fit fit(IJ)J
set_option maxHeartbeats 4000000 in
set_option maxRecDepth 100000 in
theorem kX9_fit {p0 : Int32} {p1 : Int64}  {σ : q_M} {out : Int64 × q_M} (h : fX9_fit p0 p1 σ = some out) : q_Ml l (gM D cI cJ cR ad adK adV N) yX9_fit wsX9_fit { frames := 0, cells := 0, slots := 0, locals := 0 } [.int p0, .long p1] σ out := by
  refine q_Ml_of (cc := cX9_fit) (maxL := 3) (ret := (some .long)) (by decide) rfl (Nat.le_of_ble_eq_true rfl) ?_
  intro p e s m below meth c ls C0 hr hlk hl hw
  obtain ⟨hx, hb, hml, hown, hts⟩ := id C0
  replace hl : lv_has ls 3 [(0, .int p0), (1, .long p1)] := hl
  unfold fX9_fit at h
  refine lv_iload_n hx hb dX9_fit_0 rfl (lv_at hl 0 rfl) ?_
  by_cases c1 : p0 = (0 : Int32)
  · replace h := q_t h c1
    refine q_tabIn (off := 31) (tgt := 32) C0 c1 dX9_fit_1 (by decide) (by decide) rfl (by decide) ?_
    refine lv_lload_n hx hb dX9_fit_32 rfl (lv_at hl 1 rfl) ?_
    refine lv_l2i hx hb dX9_fit_33 rfl ?_
    refine lv_i2b hx hb dX9_fit_34 rfl ?_
    refine lv_i2l hx hb dX9_fit_35 rfl ?_
    exact q_lret h C0 hr hlk hw dX9_fit_36
  · replace h := q_f h c1
    by_cases c2 : p0 = (1 : Int32)
    · replace h := q_t h c2
      refine q_tabIn (off := 36) (tgt := 37) C0 c2 dX9_fit_1 (by decide) (by decide) rfl (by decide) ?_
      refine lv_lload_n hx hb dX9_fit_37 rfl (lv_at hl 1 rfl) ?_
      refine lv_l2i hx hb dX9_fit_38 rfl ?_
      refine lv_i2s hx hb dX9_fit_39 rfl ?_
      refine lv_i2l hx hb dX9_fit_40 rfl ?_
      exact q_lret h C0 hr hlk hw dX9_fit_41
    · replace h := q_f h c2
      by_cases c3 : p0 = (2 : Int32)
      · replace h := q_t h c3
        refine q_tabIn (off := 41) (tgt := 42) C0 c3 dX9_fit_1 (by decide) (by decide) rfl (by decide) ?_
        refine lv_lload_n hx hb dX9_fit_42 rfl (lv_at hl 1 rfl) ?_
        refine lv_l2i hx hb dX9_fit_43 rfl ?_
        refine lv_i2l hx hb dX9_fit_44 rfl ?_
        exact q_lret h C0 hr hlk hw dX9_fit_45
      · replace h := q_f h c3
        by_cases c4 : p0 = (3 : Int32)
        · replace h := q_t h c4
          refine q_tabIn (off := 45) (tgt := 46) C0 c4 dX9_fit_1 (by decide) (by decide) rfl (by decide) ?_
          refine lv_lload_n hx hb dX9_fit_46 rfl (lv_at hl 1 rfl) ?_
          exact q_lret h C0 hr hlk hw dX9_fit_47
        · replace h := q_f h c4
          have n_c1 := q_neI (n := 0) c1 (by decide)
          have n_c2 := q_neI (n := 1) c2 (by decide)
          have n_c3 := q_neI (n := 2) c3 (by decide)
          have n_c4 := q_neI (n := 3) c4 (by decide)
          refine lv_tableOut (tgt := 48) hx hb dX9_fit_1 (by omega) (by decide) ?_
          refine lv_lload_n hx hb dX9_fit_48 rfl (lv_at hl 1 rfl) ?_
          refine lv_lconst (v := (0 : Int64)) hx hb dX9_fit_49 (by decide) ?_
          refine q_lcmp_eq (tgt := 58) C0 dX9_fit_50 dX9_fit_51 (by decide) (fun c5 => ?_) (fun c5 => ?_)
          · replace h := q_t h c5
            refine lv_lconst (v := (0 : Int64)) hx hb dX9_fit_58 (by decide) ?_
            exact q_lret h C0 hr hlk hw dX9_fit_59
          · replace h := q_f h c5
            refine lv_lconst (v := (1 : Int64)) hx hb dX9_fit_54 (by decide) ?_
            refine lv_goto (tgt := 59) hx hb dX9_fit_55 (by decide) ?_
            exact q_lret h C0 hr hlk hw dX9_fit_59
-- X9_noRow noRow(I)I
theorem iX9_noRow_X9 : ∀ w ∈ wsX90, w ∈ wsX9_noRow := by decide +kernel
set_option maxHeartbeats 4000000 in
set_option maxRecDepth 100000 in
theorem kX9_noRow {k : Nat} {p1 : Int32} (hk : mB N k) {σ : q_M} {out : Int32 × q_M} (h : fX9_noRow k p1 σ = some out) : q_Mi l (gM D cI cJ cR ad adK adV N) yX9_noRow wsX9_noRow { frames := 1, cells := 0, slots := 0, locals := 25 } [.ref (ad k), .int p1] σ out := by
  refine q_Mi_of (cc := cX9_noRow) (maxL := 2) (ret := (some .int)) (by decide) rfl (Nat.le_of_ble_eq_true rfl) ?_
  intro p e s m below meth c ls C0 hr hlk hl hw
  obtain ⟨hx, hb, hml, hown, hts⟩ := id C0
  replace hl : lv_has ls 2 [(0, .ref (ad k)), (1, .int p1)] := hl
  unfold fX9_noRow at h
  refine lv_iload_n hx hb dX9_noRow_0 rfl (lv_at hl 1 rfl) ?_
  refine lv_i2l hx hb dX9_noRow_1 rfl ?_
  refine lv_lconst (v := (0 : Int64)) hx hb dX9_noRow_2 (by decide) ?_
  refine lv_ldc2 (v := (7 : Int64)) hx hb hown (hts (.constantLong RX9 118 (7)) (by decide +kernel)) dX9_noRow_3 ?_
  obtain ⟨o1, hco1, h⟩ := q_bind h
  refine q_calli hw (va_runS (As := [.long p1.toInt64, .long (0 : Int64), .long (7 : Int64)]) (rest := []) C0 (kX9_in hco1 _) (va_cwS 3 hts gX9_noRow_X9_in rfl rfl rfl eX9_in ⟨(Nat.le_of_ble_eq_true rfl), (Nat.le_of_ble_eq_true rfl)⟩) ⟨q_blind, q_pre hw⟩ rfl rfl hl.1 rfl (lv_room (Nat.le_of_ble_eq_true rfl)) dX9_noRow_6 ⟨Nat.zero_le _, Nat.zero_le _⟩) (fun H locs hw => ?_)
  refine lv_if_ne (tgt := 19) hx hb dX9_noRow_9 (by decide) (fun c2 => ?_) (fun c2 => ?_)
  · replace h := q_f h c2
    refine lv_aload_n hx hb dX9_noRow_19 rfl (lv_at hl 0 rfl) ?_
    refine gt_X9_0 C0 hw hk iX9_noRow_X9 (by decide +kernel) dX9_noRow_20 ?_
    refine lv_iload_n hx hb dX9_noRow_23 rfl (lv_at hl 1 rfl) ?_
    obtain ⟨b3, h⟩ := q_if h
    refine q_iald (t0 := 0) C0 hw (mN_1 hk) (mE_1 hk) rfl b3 dX9_noRow_24 ?_
    refine lv_iconst (v := (2 : Int32)) hx hb dX9_noRow_25 (by decide) ?_
    refine lv_icmp_ne (tgt := 36) hx hb dX9_noRow_26 (by decide) (fun c4 => ?_) (fun c4 => ?_)
    · replace h := q_f h c4
      refine lv_aload_n hx hb dX9_noRow_36 rfl (lv_at hl 0 rfl) ?_
      refine gt_X9_0 C0 hw hk iX9_noRow_X9 (by decide +kernel) dX9_noRow_37 ?_
      refine lv_iload_n hx hb dX9_noRow_40 rfl (lv_at hl 1 rfl) ?_
      obtain ⟨b5, h⟩ := q_if h
      refine q_iald (t0 := 0) C0 hw (mN_1 hk) (mE_1 hk) rfl b5 dX9_noRow_41 ?_
      refine lv_if_ne (tgt := 54) hx hb dX9_noRow_42 (by decide) (fun c6 => ?_) (fun c6 => ?_)
      · replace h := q_f h c6
        refine lv_iconst (v := (0 : Int32)) hx hb dX9_noRow_54 (by decide) ?_
        exact q_iret h C0 hr hlk hw dX9_noRow_55
      · replace h := q_t h c6
        refine lv_aload_n hx hb dX9_noRow_45 rfl (lv_at hl 0 rfl) ?_
        refine lv_bipush (v := (-4 : Int32)) hx hb dX9_noRow_46 (by decide) ?_
        obtain ⟨o7, hco7, h⟩ := q_bind h
        refine q_calli hw (va_runV (As := [.int (-4 : Int32)]) (rest := []) C0 (kX9_refuse hk hco7 _) (cwV 1 hts gX9_noRow_X9_refuse rfl rfl rfl eX9_refuse ⟨(Nat.le_of_ble_eq_true rfl), (Nat.le_of_ble_eq_true rfl)⟩) ⟨q_blind, q_recv hw (mN_0 hk) (mE_0 hk) rfl, q_pre hw⟩ rfl rfl hl.1 rfl (lv_room (Nat.le_of_ble_eq_true rfl)) dX9_noRow_48 ⟨Nat.zero_le _, Nat.zero_le _⟩) (fun H locs hw => ?_)
        refine lv_goto (tgt := 55) hx hb dX9_noRow_51 (by decide) ?_
        exact q_iret h C0 hr hlk hw dX9_noRow_55
    · replace h := q_t h c4
      refine lv_aload_n hx hb dX9_noRow_29 rfl (lv_at hl 0 rfl) ?_
      refine lv_bipush (v := (-3 : Int32)) hx hb dX9_noRow_30 (by decide) ?_
      obtain ⟨o8, hco8, h⟩ := q_bind h
      refine q_calli hw (va_runV (As := [.int (-3 : Int32)]) (rest := []) C0 (kX9_refuse hk hco8 _) (cwV 1 hts gX9_noRow_X9_refuse rfl rfl rfl eX9_refuse ⟨(Nat.le_of_ble_eq_true rfl), (Nat.le_of_ble_eq_true rfl)⟩) ⟨q_blind, q_recv hw (mN_0 hk) (mE_0 hk) rfl, q_pre hw⟩ rfl rfl hl.1 rfl (lv_room (Nat.le_of_ble_eq_true rfl)) dX9_noRow_32 ⟨Nat.zero_le _, Nat.zero_le _⟩) (fun H locs hw => ?_)
      exact q_iret h C0 hr hlk hw dX9_noRow_35
  · replace h := q_t h c2
    refine lv_aload_n hx hb dX9_noRow_12 rfl (lv_at hl 0 rfl) ?_
    refine lv_bipush (v := (-2 : Int32)) hx hb dX9_noRow_13 (by decide) ?_
    obtain ⟨o9, hco9, h⟩ := q_bind h
    refine q_calli hw (va_runV (As := [.int (-2 : Int32)]) (rest := []) C0 (kX9_refuse hk hco9 _) (cwV 1 hts gX9_noRow_X9_refuse rfl rfl rfl eX9_refuse ⟨(Nat.le_of_ble_eq_true rfl), (Nat.le_of_ble_eq_true rfl)⟩) ⟨q_blind, q_recv hw (mN_0 hk) (mE_0 hk) rfl, q_pre hw⟩ rfl rfl hl.1 rfl (lv_room (Nat.le_of_ble_eq_true rfl)) dX9_noRow_15 ⟨Nat.zero_le _, Nat.zero_le _⟩) (fun H locs hw => ?_)
    exact q_iret h C0 hr hlk hw dX9_noRow_18
-- X9_set set(IIJ)I
theorem iX9_set_X9 : ∀ w ∈ wsX90, w ∈ wsX9_set := by decide +kernel
theorem eX9_fit : yX9_fit.cls ≠ "java/lang/invoke/MethodHandle" ∧ yX9_fit.cls ≠ "java/lang/invoke/VarHandle" ∧ (parseMethodDescriptor yX9_fit.desc).map (fun d => d.parameters.length) = some 2 := by decide +kernel
theorem eX9_noRow : yX9_noRow.cls = RX9 ∧ yX9_noRow.cls ≠ "java/lang/invoke/MethodHandle" ∧ yX9_noRow.cls ≠ "java/lang/invoke/VarHandle" ∧ (parseMethodDescriptor yX9_noRow.desc).map (fun d => d.parameters.length) = some 1 := by decide +kernel
set_option maxHeartbeats 4000000 in
set_option maxRecDepth 100000 in
theorem kX9_set {k : Nat} {p1 : Int32} {p2 : Int32} {p3 : Int64} (hk : mB N k) {σ : q_M} {out : Int32 × q_M} (h : fX9_set k p1 p2 p3 σ = some out) : q_Mi l (gM D cI cJ cR ad adK adV N) yX9_set wsX9_set { frames := 2, cells := 0, slots := 0, locals := 46 } [.ref (ad k), .int p1, .int p2, .long p3] σ out := by
  refine q_Mi_of (cc := cX9_set) (maxL := 6) (ret := (some .int)) (by decide) rfl (Nat.le_of_ble_eq_true rfl) ?_
  intro p e s m below meth c ls C0 hr hlk hl hw
  obtain ⟨hx, hb, hml, hown, hts⟩ := id C0
  replace hl : lv_has ls 6 [(0, .ref (ad k)), (1, .int p1), (2, .int p2), (3, .long p3)] := hl
  unfold fX9_set at h
  refine lv_aload_n hx hb dX9_set_0 rfl (lv_at hl 0 rfl) ?_
  refine lv_iload_n hx hb dX9_set_1 rfl (lv_at hl 1 rfl) ?_
  obtain ⟨o1, hco1, h⟩ := q_bind h
  refine q_calli hw (va_runV (As := [.int p1]) (rest := []) C0 (kX9_noRow hk hco1 _) (cwV 1 hts gX9_set_X9_noRow rfl rfl rfl eX9_noRow ⟨(Nat.le_of_ble_eq_true rfl), (Nat.le_of_ble_eq_true rfl)⟩) ⟨q_blind, q_recv hw (mN_0 hk) (mE_0 hk) rfl, q_pre hw⟩ rfl rfl hl.1 rfl (lv_room (Nat.le_of_ble_eq_true rfl)) dX9_set_2 ⟨Nat.zero_le _, Nat.zero_le _⟩) (fun H locs hw => ?_)
  refine lv_istore (lv' := [(5, .int o1.1), (0, .ref (ad k)), (1, .int p1), (2, .int p2), (3, .long p3)]) hx hb dX9_set_5 hl (by decide) rfl (fun ls hl => ?_)
  refine lv_iload hx hb dX9_set_7 (lv_at hl 0 rfl) ?_
  refine lv_if_eq (tgt := 15) hx hb dX9_set_9 (by decide) (fun c2 => ?_) (fun c2 => ?_)
  · replace h := q_t h c2
    refine lv_iload_n hx hb dX9_set_15 rfl (lv_at hl 3 rfl) ?_
    refine lv_i2l hx hb dX9_set_16 rfl ?_
    refine lv_lconst (v := (0 : Int64)) hx hb dX9_set_17 (by decide) ?_
    refine lv_aload_n hx hb dX9_set_18 rfl (lv_at hl 1 rfl) ?_
    refine gt_X9_2 C0 hw hk iX9_set_X9 (by decide +kernel) dX9_set_19 ?_
    refine lv_iload_n hx hb dX9_set_22 rfl (lv_at hl 2 rfl) ?_
    obtain ⟨b3, h⟩ := q_if h
    refine q_iald (t0 := 0) C0 hw (mN_3 hk) (mE_3 hk) rfl b3 dX9_set_23 ?_
    refine lv_iconst (v := (1 : Int32)) hx hb dX9_set_24 (by decide) ?_
    refine lv_isub hx hb dX9_set_25 ?_
    refine lv_i2l hx hb dX9_set_26 rfl ?_
    obtain ⟨o4, hco4, h⟩ := q_bind h
    refine q_calli hw (va_runS (As := [.long p2.toInt64, .long (0 : Int64), .long (((o1.2.1 (k + 3) p1.toNatClampNeg) - (1 : Int32)).toInt64)]) (rest := []) C0 (kX9_in hco4 _) (va_cwS 3 hts gX9_set_X9_in rfl rfl rfl eX9_in ⟨(Nat.le_of_ble_eq_true rfl), (Nat.le_of_ble_eq_true rfl)⟩) ⟨q_blind, q_pre hw⟩ rfl rfl hl.1 rfl (lv_room (Nat.le_of_ble_eq_true rfl)) dX9_set_27 ⟨Nat.zero_le _, Nat.zero_le _⟩) (fun H locs hw => ?_)
    refine lv_if_ne (tgt := 40) hx hb dX9_set_30 (by decide) (fun c5 => ?_) (fun c5 => ?_)
    · replace h := q_f h c5
      refine lv_aload_n hx hb dX9_set_40 rfl (lv_at hl 1 rfl) ?_
      refine gt_X9_3 C0 hw hk iX9_set_X9 (by decide +kernel) dX9_set_41 ?_
      refine lv_iload_n hx hb dX9_set_44 rfl (lv_at hl 2 rfl) ?_
      obtain ⟨b6, h⟩ := q_if h
      refine m_aald C0 hw hk b6 dX9_set_45 ?_
      refine lv_iload_n hx hb dX9_set_46 rfl (lv_at hl 3 rfl) ?_
      refine lv_aload_n hx hb dX9_set_47 rfl (lv_at hl 1 rfl) ?_
      refine gt_X9_1 C0 hw hk iX9_set_X9 (by decide +kernel) dX9_set_48 ?_
      refine lv_iload_n hx hb dX9_set_51 rfl (lv_at hl 2 rfl) ?_
      obtain ⟨b7, h⟩ := q_if h
      refine q_iald (t0 := 0) C0 hw (mN_2 hk) (mE_2 hk) rfl b7 dX9_set_52 ?_
      refine lv_lload_n hx hb dX9_set_53 rfl (lv_at hl 4 rfl) ?_
      obtain ⟨o8, hco8, h⟩ := q_bind h
      refine q_calll hw (va_runS (As := [.int (o4.2.1 (k + 2) p1.toNatClampNeg), .long p3]) (rest := [.int p2, .ref (ad (k + 21 + p1.toNatClampNeg))]) C0 (kX9_fit hco8 _) (va_cwS 2 hts gX9_set_X9_fit rfl rfl rfl eX9_fit ⟨(Nat.le_of_ble_eq_true rfl), (Nat.le_of_ble_eq_true rfl)⟩) ⟨q_blind, q_pre hw⟩ rfl rfl hl.1 rfl (lv_room (Nat.le_of_ble_eq_true rfl)) dX9_set_54 ⟨Nat.zero_le _, Nat.zero_le _⟩) (fun H locs hw => ?_)
      obtain ⟨b9, h⟩ := q_if h
      refine q_last (t0 := 1) C0 hw (mN_r ⟨hk, b6⟩) (mE_r ⟨hk, b6⟩) rfl b9 dX9_set_57 (fun σ10 H locs e_σ10 hw => ?_)
      replace h := q_let_at e_σ10 h
      refine lv_iconst (v := (1 : Int32)) hx hb dX9_set_58 (by decide) ?_
      exact q_iret h C0 hr hlk hw dX9_set_59
    · replace h := q_t h c5
      refine lv_aload_n hx hb dX9_set_33 rfl (lv_at hl 1 rfl) ?_
      refine lv_bipush (v := (-2 : Int32)) hx hb dX9_set_34 (by decide) ?_
      obtain ⟨o11, hco11, h⟩ := q_bind h
      refine q_calli hw (va_runV (As := [.int (-2 : Int32)]) (rest := []) C0 (kX9_refuse hk hco11 _) (cwV 1 hts gX9_set_X9_refuse rfl rfl rfl eX9_refuse ⟨(Nat.le_of_ble_eq_true rfl), (Nat.le_of_ble_eq_true rfl)⟩) ⟨q_blind, q_recv hw (mN_0 hk) (mE_0 hk) rfl, q_pre hw⟩ rfl rfl hl.1 rfl (lv_room (Nat.le_of_ble_eq_true rfl)) dX9_set_36 ⟨Nat.zero_le _, Nat.zero_le _⟩) (fun H locs hw => ?_)
      exact q_iret h C0 hr hlk hw dX9_set_39
  · replace h := q_f h c2
    refine lv_iload hx hb dX9_set_12 (lv_at hl 0 rfl) ?_
    exact q_iret h C0 hr hlk hw dX9_set_14
-- X9_noMove noMove(I)I
theorem iX9_noMove_X9 : ∀ w ∈ wsX90, w ∈ wsX9_noMove := by decide +kernel
set_option maxHeartbeats 4000000 in
set_option maxRecDepth 100000 in
theorem kX9_noMove {k : Nat} {p1 : Int32} (hk : mB N k) {σ : q_M} {out : Int32 × q_M} (h : fX9_noMove k p1 σ = some out) : q_Mi l (gM D cI cJ cR ad adK adV N) yX9_noMove wsX9_noMove { frames := 1, cells := 0, slots := 0, locals := 25 } [.ref (ad k), .int p1] σ out := by
  refine q_Mi_of (cc := cX9_noMove) (maxL := 2) (ret := (some .int)) (by decide) rfl (Nat.le_of_ble_eq_true rfl) ?_
  intro p e s m below meth c ls C0 hr hlk hl hw
  obtain ⟨hx, hb, hml, hown, hts⟩ := id C0
  replace hl : lv_has ls 2 [(0, .ref (ad k)), (1, .int p1)] := hl
  unfold fX9_noMove at h
  refine lv_iload_n hx hb dX9_noMove_0 rfl (lv_at hl 1 rfl) ?_
  refine lv_i2l hx hb dX9_noMove_1 rfl ?_
  refine lv_lconst (v := (0 : Int64)) hx hb dX9_noMove_2 (by decide) ?_
  refine lv_ldc2 (v := (7 : Int64)) hx hb hown (hts (.constantLong RX9 118 (7)) (by decide +kernel)) dX9_noMove_3 ?_
  obtain ⟨o1, hco1, h⟩ := q_bind h
  refine q_calli hw (va_runS (As := [.long p1.toInt64, .long (0 : Int64), .long (7 : Int64)]) (rest := []) C0 (kX9_in hco1 _) (va_cwS 3 hts gX9_noMove_X9_in rfl rfl rfl eX9_in ⟨(Nat.le_of_ble_eq_true rfl), (Nat.le_of_ble_eq_true rfl)⟩) ⟨q_blind, q_pre hw⟩ rfl rfl hl.1 rfl (lv_room (Nat.le_of_ble_eq_true rfl)) dX9_noMove_6 ⟨Nat.zero_le _, Nat.zero_le _⟩) (fun H locs hw => ?_)
  refine lv_if_ne (tgt := 19) hx hb dX9_noMove_9 (by decide) (fun c2 => ?_) (fun c2 => ?_)
  · replace h := q_f h c2
    refine lv_aload_n hx hb dX9_noMove_19 rfl (lv_at hl 0 rfl) ?_
    refine gt_X9_0 C0 hw hk iX9_noMove_X9 (by decide +kernel) dX9_noMove_20 ?_
    refine lv_iload_n hx hb dX9_noMove_23 rfl (lv_at hl 1 rfl) ?_
    obtain ⟨b3, h⟩ := q_if h
    refine q_iald (t0 := 0) C0 hw (mN_1 hk) (mE_1 hk) rfl b3 dX9_noMove_24 ?_
    refine lv_iconst (v := (1 : Int32)) hx hb dX9_noMove_25 (by decide) ?_
    refine lv_icmp_ne (tgt := 36) hx hb dX9_noMove_26 (by decide) (fun c4 => ?_) (fun c4 => ?_)
    · replace h := q_f h c4
      refine lv_aload_n hx hb dX9_noMove_36 rfl (lv_at hl 0 rfl) ?_
      refine gt_X9_0 C0 hw hk iX9_noMove_X9 (by decide +kernel) dX9_noMove_37 ?_
      refine lv_iload_n hx hb dX9_noMove_40 rfl (lv_at hl 1 rfl) ?_
      obtain ⟨b5, h⟩ := q_if h
      refine q_iald (t0 := 0) C0 hw (mN_1 hk) (mE_1 hk) rfl b5 dX9_noMove_41 ?_
      refine lv_if_ne (tgt := 54) hx hb dX9_noMove_42 (by decide) (fun c6 => ?_) (fun c6 => ?_)
      · replace h := q_f h c6
        refine lv_iconst (v := (0 : Int32)) hx hb dX9_noMove_54 (by decide) ?_
        exact q_iret h C0 hr hlk hw dX9_noMove_55
      · replace h := q_t h c6
        refine lv_aload_n hx hb dX9_noMove_45 rfl (lv_at hl 0 rfl) ?_
        refine lv_bipush (v := (-4 : Int32)) hx hb dX9_noMove_46 (by decide) ?_
        obtain ⟨o7, hco7, h⟩ := q_bind h
        refine q_calli hw (va_runV (As := [.int (-4 : Int32)]) (rest := []) C0 (kX9_refuse hk hco7 _) (cwV 1 hts gX9_noMove_X9_refuse rfl rfl rfl eX9_refuse ⟨(Nat.le_of_ble_eq_true rfl), (Nat.le_of_ble_eq_true rfl)⟩) ⟨q_blind, q_recv hw (mN_0 hk) (mE_0 hk) rfl, q_pre hw⟩ rfl rfl hl.1 rfl (lv_room (Nat.le_of_ble_eq_true rfl)) dX9_noMove_48 ⟨Nat.zero_le _, Nat.zero_le _⟩) (fun H locs hw => ?_)
        refine lv_goto (tgt := 55) hx hb dX9_noMove_51 (by decide) ?_
        exact q_iret h C0 hr hlk hw dX9_noMove_55
    · replace h := q_t h c4
      refine lv_aload_n hx hb dX9_noMove_29 rfl (lv_at hl 0 rfl) ?_
      refine lv_bipush (v := (-3 : Int32)) hx hb dX9_noMove_30 (by decide) ?_
      obtain ⟨o8, hco8, h⟩ := q_bind h
      refine q_calli hw (va_runV (As := [.int (-3 : Int32)]) (rest := []) C0 (kX9_refuse hk hco8 _) (cwV 1 hts gX9_noMove_X9_refuse rfl rfl rfl eX9_refuse ⟨(Nat.le_of_ble_eq_true rfl), (Nat.le_of_ble_eq_true rfl)⟩) ⟨q_blind, q_recv hw (mN_0 hk) (mE_0 hk) rfl, q_pre hw⟩ rfl rfl hl.1 rfl (lv_room (Nat.le_of_ble_eq_true rfl)) dX9_noMove_32 ⟨Nat.zero_le _, Nat.zero_le _⟩) (fun H locs hw => ?_)
      exact q_iret h C0 hr hlk hw dX9_noMove_35
  · replace h := q_t h c2
    refine lv_aload_n hx hb dX9_noMove_12 rfl (lv_at hl 0 rfl) ?_
    refine lv_bipush (v := (-2 : Int32)) hx hb dX9_noMove_13 (by decide) ?_
    obtain ⟨o9, hco9, h⟩ := q_bind h
    refine q_calli hw (va_runV (As := [.int (-2 : Int32)]) (rest := []) C0 (kX9_refuse hk hco9 _) (cwV 1 hts gX9_noMove_X9_refuse rfl rfl rfl eX9_refuse ⟨(Nat.le_of_ble_eq_true rfl), (Nat.le_of_ble_eq_true rfl)⟩) ⟨q_blind, q_recv hw (mN_0 hk) (mE_0 hk) rfl, q_pre hw⟩ rfl rfl hl.1 rfl (lv_room (Nat.le_of_ble_eq_true rfl)) dX9_noMove_15 ⟨Nat.zero_le _, Nat.zero_le _⟩) (fun H locs hw => ?_)
    exact q_iret h C0 hr hlk hw dX9_noMove_18
-- X9_copy copy(IIIII)I
theorem iX9_copy_X9 : ∀ w ∈ wsX90, w ∈ wsX9_copy := by decide +kernel
set_option maxHeartbeats 4000000 in
set_option maxRecDepth 100000 in
theorem tX9_copy_c225 {k : Nat} {p1 : Int32} {p2 : Int32} {p3 : Int32} {p4 : Int32} {p5 : Int32} (hk : mB N k) (C0 : CallFix p m c cX9_copy 7 s args wsX9_copy RX9) (hr : meth.sig.returnType = (some .int)) (hlk : meth.locks = false) {out : Int32 × q_M}  : ∀ n : Nat, ∀ (v6 : Int32) (σ : q_M) (H : Heap) (locs : List Loc) (ls : Array Slot), q_H (gM D cI cJ cR ad adK adV N) (q_A (gM D cI cJ cR ad adK adV N) s.heap.size) s σ H locs → lv_has ls 7 [(0, .ref (ad k)), (2, .int p2), (4, .int p4), (5, .int p5), (6, .int v6)] → fX9_copy_c225 k p1 p2 p3 p4 p5 n v6 σ = some out → W p l e { frames := 1, cells := 0, slots := 0, locals := 25 } s m args below meth c H locs 0 0 (MQ below (q_Ri (gM D cI cJ cR ad adK adV N) (q_A (gM D cI cJ cR ad adK adV N) s.heap.size) out) args s 0 0 (q_A (gM D cI cJ cR ad adK adV N) s.heap.size)) (F0 m 225 ls []) := by
  obtain ⟨hx, hb, hml, hown, hts⟩ := id C0
  intro n
  induction n with
  | zero =>
    intro v6 σ H locs ls  hw hl h
    cases (show (none : Option (Int32 × q_M)) = some out from h)
  | succ n hrec225 =>
    intro v6 σ H locs ls  hw hl h
    replace h : fX9_copy_c225b k p1 p2 p3 p4 p5 (fX9_copy_c225 k p1 p2 p3 p4 p5 n) v6 σ = some out := h
    unfold fX9_copy_c225b at h
    refine lv_iload hx hb dX9_copy_225 (lv_at hl 4 rfl) ?_
    refine lv_iload hx hb dX9_copy_227 (lv_at hl 3 rfl) ?_
    refine lv_icmp_ge (tgt := 257) hx hb dX9_copy_229 (by decide) (fun c1 => ?_) (fun c1 => ?_)
    · replace h := q_t h c1
      refine lv_iload hx hb dX9_copy_257 (lv_at hl 3 rfl) ?_
      exact q_iret h C0 hr hlk hw dX9_copy_259
    · replace h := q_f h c1
      refine lv_aload_n hx hb dX9_copy_232 rfl (lv_at hl 0 rfl) ?_
      refine gt_X9_3 C0 hw hk iX9_copy_X9 (by decide +kernel) dX9_copy_233 ?_
      refine lv_iload_n hx hb dX9_copy_236 rfl (lv_at hl 1 rfl) ?_
      obtain ⟨b2, h⟩ := q_if h
      refine m_aald C0 hw hk b2 dX9_copy_237 ?_
      refine lv_iload hx hb dX9_copy_238 (lv_at hl 2 rfl) ?_
      refine lv_iload hx hb dX9_copy_240 (lv_at hl 4 rfl) ?_
      refine lv_iadd hx hb dX9_copy_242 ?_
      refine lv_aload_n hx hb dX9_copy_243 rfl (lv_at hl 0 rfl) ?_
      refine gt_X9_4 C0 hw hk iX9_copy_X9 (by decide +kernel) dX9_copy_244 ?_
      refine lv_iload hx hb dX9_copy_247 (lv_at hl 4 rfl) ?_
      obtain ⟨b3, h⟩ := q_if h
      refine q_lald (t0 := 1) C0 hw (mN_5 hk) (mE_5 hk) rfl b3 dX9_copy_249 ?_
      obtain ⟨b4, h⟩ := q_if h
      refine q_last (t0 := 1) C0 hw (mN_r ⟨hk, b2⟩) (mE_r ⟨hk, b2⟩) rfl b4 dX9_copy_250 (fun σ5 H locs e_σ5 hw => ?_)
      replace h := q_let_at e_σ5 h
      refine lv_iinc (v := (v6 + (1 : Int32))) (lv' := [(6, .int (v6 + (1 : Int32))), (0, .ref (ad k)), (2, .int p2), (4, .int p4), (5, .int p5)]) hx hb dX9_copy_251 hl (k := 4) rfl rfl (by decide) rfl (fun ls hl => ?_)
      refine lv_goto (tgt := 225) hx hb dX9_copy_254 (by decide) ?_
      exact hrec225 (v6 + (1 : Int32)) σ5 _ _ _ hw (lv_sub hl [1, 2, 3, 4, 0] rfl) h
set_option maxHeartbeats 4000000 in
set_option maxRecDepth 100000 in
theorem tX9_copy_c191 {k : Nat} {p1 : Int32} {p2 : Int32} {p3 : Int32} {p4 : Int32} {p5 : Int32} (hk : mB N k) (C0 : CallFix p m c cX9_copy 7 s args wsX9_copy RX9) (hr : meth.sig.returnType = (some .int)) (hlk : meth.locks = false) {out : Int32 × q_M}  : ∀ n : Nat, ∀ (v6 : Int32) (σ : q_M) (H : Heap) (locs : List Loc) (ls : Array Slot), q_H (gM D cI cJ cR ad adK adV N) (q_A (gM D cI cJ cR ad adK adV N) s.heap.size) s σ H locs → lv_has ls 7 [(0, .ref (ad k)), (1, .int p1), (2, .int p2), (3, .int p3), (4, .int p4), (5, .int p5), (6, .int v6)] → fX9_copy_c191 k p1 p2 p3 p4 p5 n v6 σ = some out → W p l e { frames := 1, cells := 0, slots := 0, locals := 25 } s m args below meth c H locs 0 0 (MQ below (q_Ri (gM D cI cJ cR ad adK adV N) (q_A (gM D cI cJ cR ad adK adV N) s.heap.size) out) args s 0 0 (q_A (gM D cI cJ cR ad adK adV N) s.heap.size)) (F0 m 191 ls []) := by
  obtain ⟨hx, hb, hml, hown, hts⟩ := id C0
  intro n
  induction n with
  | zero =>
    intro v6 σ H locs ls  hw hl h
    cases (show (none : Option (Int32 × q_M)) = some out from h)
  | succ n hrec191 =>
    intro v6 σ H locs ls  hw hl h
    replace h : fX9_copy_c191b k p1 p2 p3 p4 p5 (fX9_copy_c191 k p1 p2 p3 p4 p5 n) v6 σ = some out := h
    unfold fX9_copy_c191b at h
    refine lv_iload hx hb dX9_copy_191 (lv_at hl 6 rfl) ?_
    refine lv_iload hx hb dX9_copy_193 (lv_at hl 5 rfl) ?_
    refine lv_icmp_ge (tgt := 222) hx hb dX9_copy_195 (by decide) (fun c1 => ?_) (fun c1 => ?_)
    · replace h := q_t h c1
      refine lv_iconst (v := (0 : Int32)) hx hb dX9_copy_222 (by decide) ?_
      refine lv_istore (lv' := [(6, .int (0 : Int32)), (0, .ref (ad k)), (1, .int p1), (2, .int p2), (3, .int p3), (4, .int p4), (5, .int p5)]) hx hb dX9_copy_223 hl (by decide) rfl (fun ls hl => ?_)
      exact tX9_copy_c225 hk C0 hr hlk q_FU (0 : Int32) σ _ _ _ hw (lv_sub hl [1, 3, 5, 6, 0] rfl) h
    · replace h := q_f h c1
      refine lv_aload_n hx hb dX9_copy_198 rfl (lv_at hl 0 rfl) ?_
      refine gt_X9_4 C0 hw hk iX9_copy_X9 (by decide +kernel) dX9_copy_199 ?_
      refine lv_iload hx hb dX9_copy_202 (lv_at hl 6 rfl) ?_
      refine lv_aload_n hx hb dX9_copy_204 rfl (lv_at hl 0 rfl) ?_
      refine gt_X9_3 C0 hw hk iX9_copy_X9 (by decide +kernel) dX9_copy_205 ?_
      refine lv_iload_n hx hb dX9_copy_208 rfl (lv_at hl 1 rfl) ?_
      obtain ⟨b2, h⟩ := q_if h
      refine m_aald C0 hw hk b2 dX9_copy_209 ?_
      refine lv_iload_n hx hb dX9_copy_210 rfl (lv_at hl 3 rfl) ?_
      refine lv_iload hx hb dX9_copy_211 (lv_at hl 6 rfl) ?_
      refine lv_iadd hx hb dX9_copy_213 ?_
      obtain ⟨b3, h⟩ := q_if h
      refine q_lald (t0 := 1) C0 hw (mN_r ⟨hk, b2⟩) (mE_r ⟨hk, b2⟩) rfl b3 dX9_copy_214 ?_
      obtain ⟨b4, h⟩ := q_if h
      refine q_last (t0 := 1) C0 hw (mN_5 hk) (mE_5 hk) rfl b4 dX9_copy_215 (fun σ5 H locs e_σ5 hw => ?_)
      replace h := q_let_at e_σ5 h
      refine lv_iinc (v := (v6 + (1 : Int32))) (lv' := [(6, .int (v6 + (1 : Int32))), (0, .ref (ad k)), (1, .int p1), (2, .int p2), (3, .int p3), (4, .int p4), (5, .int p5)]) hx hb dX9_copy_216 hl (k := 6) rfl rfl (by decide) rfl (fun ls hl => ?_)
      refine lv_goto (tgt := 191) hx hb dX9_copy_219 (by decide) ?_
      exact hrec191 (v6 + (1 : Int32)) σ5 _ _ _ hw (lv_sub hl [1, 2, 3, 4, 5, 6, 0] rfl) h
set_option maxHeartbeats 4000000 in
set_option maxRecDepth 100000 in
theorem tX9_copy_c93 {k : Nat} {p1 : Int32} {p2 : Int32} {p3 : Int32} {p4 : Int32} {p5 : Int32} (hk : mB N k) (C0 : CallFix p m c cX9_copy 7 s args wsX9_copy RX9) (hr : meth.sig.returnType = (some .int)) (hlk : meth.locks = false) {out : Int32 × q_M}  : ∀  (σ : q_M) (H : Heap) (locs : List Loc) (ls : Array Slot), q_H (gM D cI cJ cR ad adK adV N) (q_A (gM D cI cJ cR ad adK adV N) s.heap.size) s σ H locs → lv_has ls 7 [(0, .ref (ad k)), (1, .int p1), (2, .int p2), (3, .int p3), (4, .int p4), (5, .int p5)] → fX9_copy_c93 k p1 p2 p3 p4 p5  σ = some out → W p l e { frames := 1, cells := 0, slots := 0, locals := 25 } s m args below meth c H locs 0 0 (MQ below (q_Ri (gM D cI cJ cR ad adK adV N) (q_A (gM D cI cJ cR ad adK adV N) s.heap.size) out) args s 0 0 (q_A (gM D cI cJ cR ad adK adV N) s.heap.size)) (F0 m 93 ls []) := by
  obtain ⟨hx, hb, hml, hown, hts⟩ := id C0
  intro  σ H locs ls  hw hl h
  unfold fX9_copy_c93 at h
  refine lv_aload_n hx hb dX9_copy_93 rfl (lv_at hl 0 rfl) ?_
  refine gt_X9_0 C0 hw hk iX9_copy_X9 (by decide +kernel) dX9_copy_94 ?_
  refine lv_iload_n hx hb dX9_copy_97 rfl (lv_at hl 1 rfl) ?_
  obtain ⟨b1, h⟩ := q_if h
  refine q_iald (t0 := 0) C0 hw (mN_1 hk) (mE_1 hk) rfl b1 dX9_copy_98 ?_
  refine lv_if_eq (tgt := 111) hx hb dX9_copy_99 (by decide) (fun c2 => ?_) (fun c2 => ?_)
  · replace h := q_t h c2
    refine lv_aload_n hx hb dX9_copy_111 rfl (lv_at hl 0 rfl) ?_
    refine lv_bipush (v := (-4 : Int32)) hx hb dX9_copy_112 (by decide) ?_
    obtain ⟨o3, hco3, h⟩ := q_bind h
    refine q_calli hw (va_runV (As := [.int (-4 : Int32)]) (rest := []) C0 (kX9_refuse hk hco3 _) (cwV 1 hts gX9_copy_X9_refuse rfl rfl rfl eX9_refuse ⟨(Nat.le_of_ble_eq_true rfl), (Nat.le_of_ble_eq_true rfl)⟩) ⟨q_blind, q_recv hw (mN_0 hk) (mE_0 hk) rfl, q_pre hw⟩ rfl rfl hl.1 rfl (lv_room (Nat.le_of_ble_eq_true rfl)) dX9_copy_114 ⟨Nat.zero_le _, Nat.zero_le _⟩) (fun H locs hw => ?_)
    exact q_iret h C0 hr hlk hw dX9_copy_117
  · replace h := q_f h c2
    refine lv_aload_n hx hb dX9_copy_102 rfl (lv_at hl 0 rfl) ?_
    refine gt_X9_0 C0 hw hk iX9_copy_X9 (by decide +kernel) dX9_copy_103 ?_
    refine lv_iload_n hx hb dX9_copy_106 rfl (lv_at hl 2 rfl) ?_
    obtain ⟨b4, h⟩ := q_if h
    refine q_iald (t0 := 0) C0 hw (mN_1 hk) (mE_1 hk) rfl b4 dX9_copy_107 ?_
    refine lv_if_ne (tgt := 118) hx hb dX9_copy_108 (by decide) (fun c5 => ?_) (fun c5 => ?_)
    · replace h := q_f h c5
      refine lv_iload hx hb dX9_copy_118 (lv_at hl 5 rfl) ?_
      refine lv_if_lt (tgt := 181) hx hb dX9_copy_120 (by decide) (fun c6 => ?_) (fun c6 => ?_)
      · replace h := q_t h c6
        refine lv_aload_n hx hb dX9_copy_181 rfl (lv_at hl 0 rfl) ?_
        refine lv_bipush (v := (-2 : Int32)) hx hb dX9_copy_182 (by decide) ?_
        obtain ⟨o7, hco7, h⟩ := q_bind h
        refine q_calli hw (va_runV (As := [.int (-2 : Int32)]) (rest := []) C0 (kX9_refuse hk hco7 _) (cwV 1 hts gX9_copy_X9_refuse rfl rfl rfl eX9_refuse ⟨(Nat.le_of_ble_eq_true rfl), (Nat.le_of_ble_eq_true rfl)⟩) ⟨q_blind, q_recv hw (mN_0 hk) (mE_0 hk) rfl, q_pre hw⟩ rfl rfl hl.1 rfl (lv_room (Nat.le_of_ble_eq_true rfl)) dX9_copy_184 ⟨Nat.zero_le _, Nat.zero_le _⟩) (fun H locs hw => ?_)
        exact q_iret h C0 hr hlk hw dX9_copy_187
      · replace h := q_f h c6
        refine lv_iload_n hx hb dX9_copy_123 rfl (lv_at hl 3 rfl) ?_
        refine lv_if_lt (tgt := 181) hx hb dX9_copy_124 (by decide) (fun c8 => ?_) (fun c8 => ?_)
        · replace h := q_t h c8
          refine lv_aload_n hx hb dX9_copy_181 rfl (lv_at hl 0 rfl) ?_
          refine lv_bipush (v := (-2 : Int32)) hx hb dX9_copy_182 (by decide) ?_
          obtain ⟨o9, hco9, h⟩ := q_bind h
          refine q_calli hw (va_runV (As := [.int (-2 : Int32)]) (rest := []) C0 (kX9_refuse hk hco9 _) (cwV 1 hts gX9_copy_X9_refuse rfl rfl rfl eX9_refuse ⟨(Nat.le_of_ble_eq_true rfl), (Nat.le_of_ble_eq_true rfl)⟩) ⟨q_blind, q_recv hw (mN_0 hk) (mE_0 hk) rfl, q_pre hw⟩ rfl rfl hl.1 rfl (lv_room (Nat.le_of_ble_eq_true rfl)) dX9_copy_184 ⟨Nat.zero_le _, Nat.zero_le _⟩) (fun H locs hw => ?_)
          exact q_iret h C0 hr hlk hw dX9_copy_187
        · replace h := q_f h c8
          refine lv_iload hx hb dX9_copy_127 (lv_at hl 4 rfl) ?_
          refine lv_if_lt (tgt := 181) hx hb dX9_copy_129 (by decide) (fun c10 => ?_) (fun c10 => ?_)
          · replace h := q_t h c10
            refine lv_aload_n hx hb dX9_copy_181 rfl (lv_at hl 0 rfl) ?_
            refine lv_bipush (v := (-2 : Int32)) hx hb dX9_copy_182 (by decide) ?_
            obtain ⟨o11, hco11, h⟩ := q_bind h
            refine q_calli hw (va_runV (As := [.int (-2 : Int32)]) (rest := []) C0 (kX9_refuse hk hco11 _) (cwV 1 hts gX9_copy_X9_refuse rfl rfl rfl eX9_refuse ⟨(Nat.le_of_ble_eq_true rfl), (Nat.le_of_ble_eq_true rfl)⟩) ⟨q_blind, q_recv hw (mN_0 hk) (mE_0 hk) rfl, q_pre hw⟩ rfl rfl hl.1 rfl (lv_room (Nat.le_of_ble_eq_true rfl)) dX9_copy_184 ⟨Nat.zero_le _, Nat.zero_le _⟩) (fun H locs hw => ?_)
            exact q_iret h C0 hr hlk hw dX9_copy_187
          · replace h := q_f h c10
            refine lv_iload hx hb dX9_copy_132 (lv_at hl 5 rfl) ?_
            refine lv_aload_n hx hb dX9_copy_134 rfl (lv_at hl 0 rfl) ?_
            refine gt_X9_2 C0 hw hk iX9_copy_X9 (by decide +kernel) dX9_copy_135 ?_
            refine lv_iload_n hx hb dX9_copy_138 rfl (lv_at hl 1 rfl) ?_
            obtain ⟨b12, h⟩ := q_if h
            refine q_iald (t0 := 0) C0 hw (mN_3 hk) (mE_3 hk) rfl b12 dX9_copy_139 ?_
            refine lv_icmp_gt (tgt := 181) hx hb dX9_copy_140 (by decide) (fun c13 => ?_) (fun c13 => ?_)
            · replace h := q_t h c13
              refine lv_aload_n hx hb dX9_copy_181 rfl (lv_at hl 0 rfl) ?_
              refine lv_bipush (v := (-2 : Int32)) hx hb dX9_copy_182 (by decide) ?_
              obtain ⟨o14, hco14, h⟩ := q_bind h
              refine q_calli hw (va_runV (As := [.int (-2 : Int32)]) (rest := []) C0 (kX9_refuse hk hco14 _) (cwV 1 hts gX9_copy_X9_refuse rfl rfl rfl eX9_refuse ⟨(Nat.le_of_ble_eq_true rfl), (Nat.le_of_ble_eq_true rfl)⟩) ⟨q_blind, q_recv hw (mN_0 hk) (mE_0 hk) rfl, q_pre hw⟩ rfl rfl hl.1 rfl (lv_room (Nat.le_of_ble_eq_true rfl)) dX9_copy_184 ⟨Nat.zero_le _, Nat.zero_le _⟩) (fun H locs hw => ?_)
              exact q_iret h C0 hr hlk hw dX9_copy_187
            · replace h := q_f h c13
              refine lv_iload hx hb dX9_copy_143 (lv_at hl 5 rfl) ?_
              refine lv_aload_n hx hb dX9_copy_145 rfl (lv_at hl 0 rfl) ?_
              refine gt_X9_2 C0 hw hk iX9_copy_X9 (by decide +kernel) dX9_copy_146 ?_
              refine lv_iload_n hx hb dX9_copy_149 rfl (lv_at hl 2 rfl) ?_
              obtain ⟨b15, h⟩ := q_if h
              refine q_iald (t0 := 0) C0 hw (mN_3 hk) (mE_3 hk) rfl b15 dX9_copy_150 ?_
              refine lv_icmp_gt (tgt := 181) hx hb dX9_copy_151 (by decide) (fun c16 => ?_) (fun c16 => ?_)
              · replace h := q_t h c16
                refine lv_aload_n hx hb dX9_copy_181 rfl (lv_at hl 0 rfl) ?_
                refine lv_bipush (v := (-2 : Int32)) hx hb dX9_copy_182 (by decide) ?_
                obtain ⟨o17, hco17, h⟩ := q_bind h
                refine q_calli hw (va_runV (As := [.int (-2 : Int32)]) (rest := []) C0 (kX9_refuse hk hco17 _) (cwV 1 hts gX9_copy_X9_refuse rfl rfl rfl eX9_refuse ⟨(Nat.le_of_ble_eq_true rfl), (Nat.le_of_ble_eq_true rfl)⟩) ⟨q_blind, q_recv hw (mN_0 hk) (mE_0 hk) rfl, q_pre hw⟩ rfl rfl hl.1 rfl (lv_room (Nat.le_of_ble_eq_true rfl)) dX9_copy_184 ⟨Nat.zero_le _, Nat.zero_le _⟩) (fun H locs hw => ?_)
                exact q_iret h C0 hr hlk hw dX9_copy_187
              · replace h := q_f h c16
                refine lv_iload_n hx hb dX9_copy_154 rfl (lv_at hl 3 rfl) ?_
                refine lv_aload_n hx hb dX9_copy_155 rfl (lv_at hl 0 rfl) ?_
                refine gt_X9_2 C0 hw hk iX9_copy_X9 (by decide +kernel) dX9_copy_156 ?_
                refine lv_iload_n hx hb dX9_copy_159 rfl (lv_at hl 1 rfl) ?_
                obtain ⟨b18, h⟩ := q_if h
                refine q_iald (t0 := 0) C0 hw (mN_3 hk) (mE_3 hk) rfl b18 dX9_copy_160 ?_
                refine lv_iload hx hb dX9_copy_161 (lv_at hl 5 rfl) ?_
                refine lv_isub hx hb dX9_copy_163 ?_
                refine lv_icmp_gt (tgt := 181) hx hb dX9_copy_164 (by decide) (fun c19 => ?_) (fun c19 => ?_)
                · replace h := q_t h c19
                  refine lv_aload_n hx hb dX9_copy_181 rfl (lv_at hl 0 rfl) ?_
                  refine lv_bipush (v := (-2 : Int32)) hx hb dX9_copy_182 (by decide) ?_
                  obtain ⟨o20, hco20, h⟩ := q_bind h
                  refine q_calli hw (va_runV (As := [.int (-2 : Int32)]) (rest := []) C0 (kX9_refuse hk hco20 _) (cwV 1 hts gX9_copy_X9_refuse rfl rfl rfl eX9_refuse ⟨(Nat.le_of_ble_eq_true rfl), (Nat.le_of_ble_eq_true rfl)⟩) ⟨q_blind, q_recv hw (mN_0 hk) (mE_0 hk) rfl, q_pre hw⟩ rfl rfl hl.1 rfl (lv_room (Nat.le_of_ble_eq_true rfl)) dX9_copy_184 ⟨Nat.zero_le _, Nat.zero_le _⟩) (fun H locs hw => ?_)
                  exact q_iret h C0 hr hlk hw dX9_copy_187
                · replace h := q_f h c19
                  refine lv_iload hx hb dX9_copy_167 (lv_at hl 4 rfl) ?_
                  refine lv_aload_n hx hb dX9_copy_169 rfl (lv_at hl 0 rfl) ?_
                  refine gt_X9_2 C0 hw hk iX9_copy_X9 (by decide +kernel) dX9_copy_170 ?_
                  refine lv_iload_n hx hb dX9_copy_173 rfl (lv_at hl 2 rfl) ?_
                  obtain ⟨b21, h⟩ := q_if h
                  refine q_iald (t0 := 0) C0 hw (mN_3 hk) (mE_3 hk) rfl b21 dX9_copy_174 ?_
                  refine lv_iload hx hb dX9_copy_175 (lv_at hl 5 rfl) ?_
                  refine lv_isub hx hb dX9_copy_177 ?_
                  refine lv_icmp_le (tgt := 188) hx hb dX9_copy_178 (by decide) (fun c22 => ?_) (fun c22 => ?_)
                  · replace h := q_t h c22
                    refine lv_iconst (v := (0 : Int32)) hx hb dX9_copy_188 (by decide) ?_
                    refine lv_istore (lv' := [(6, .int (0 : Int32)), (0, .ref (ad k)), (1, .int p1), (2, .int p2), (3, .int p3), (4, .int p4), (5, .int p5)]) hx hb dX9_copy_189 hl (by decide) rfl (fun ls hl => ?_)
                    exact tX9_copy_c191 hk C0 hr hlk q_FU (0 : Int32) σ _ _ _ hw (lv_sub hl [1, 2, 3, 4, 5, 6, 0] rfl) h
                  · replace h := q_f h c22
                    refine lv_aload_n hx hb dX9_copy_181 rfl (lv_at hl 0 rfl) ?_
                    refine lv_bipush (v := (-2 : Int32)) hx hb dX9_copy_182 (by decide) ?_
                    obtain ⟨o23, hco23, h⟩ := q_bind h
                    refine q_calli hw (va_runV (As := [.int (-2 : Int32)]) (rest := []) C0 (kX9_refuse hk hco23 _) (cwV 1 hts gX9_copy_X9_refuse rfl rfl rfl eX9_refuse ⟨(Nat.le_of_ble_eq_true rfl), (Nat.le_of_ble_eq_true rfl)⟩) ⟨q_blind, q_recv hw (mN_0 hk) (mE_0 hk) rfl, q_pre hw⟩ rfl rfl hl.1 rfl (lv_room (Nat.le_of_ble_eq_true rfl)) dX9_copy_184 ⟨Nat.zero_le _, Nat.zero_le _⟩) (fun H locs hw => ?_)
                    exact q_iret h C0 hr hlk hw dX9_copy_187
    · replace h := q_t h c5
      refine lv_aload_n hx hb dX9_copy_111 rfl (lv_at hl 0 rfl) ?_
      refine lv_bipush (v := (-4 : Int32)) hx hb dX9_copy_112 (by decide) ?_
      obtain ⟨o24, hco24, h⟩ := q_bind h
      refine q_calli hw (va_runV (As := [.int (-4 : Int32)]) (rest := []) C0 (kX9_refuse hk hco24 _) (cwV 1 hts gX9_copy_X9_refuse rfl rfl rfl eX9_refuse ⟨(Nat.le_of_ble_eq_true rfl), (Nat.le_of_ble_eq_true rfl)⟩) ⟨q_blind, q_recv hw (mN_0 hk) (mE_0 hk) rfl, q_pre hw⟩ rfl rfl hl.1 rfl (lv_room (Nat.le_of_ble_eq_true rfl)) dX9_copy_114 ⟨Nat.zero_le _, Nat.zero_le _⟩) (fun H locs hw => ?_)
      exact q_iret h C0 hr hlk hw dX9_copy_117
set_option maxHeartbeats 4000000 in
set_option maxRecDepth 100000 in
theorem kX9_copy {k : Nat} {p1 : Int32} {p2 : Int32} {p3 : Int32} {p4 : Int32} {p5 : Int32} (hk : mB N k) {σ : q_M} {out : Int32 × q_M} (h : fX9_copy k p1 p2 p3 p4 p5 σ = some out) : q_Mi l (gM D cI cJ cR ad adK adV N) yX9_copy wsX9_copy { frames := 1, cells := 0, slots := 0, locals := 25 } [.ref (ad k), .int p1, .int p2, .int p3, .int p4, .int p5] σ out := by
  refine q_Mi_of (cc := cX9_copy) (maxL := 7) (ret := (some .int)) (by decide) rfl (Nat.le_of_ble_eq_true rfl) ?_
  intro p e s m below meth c ls C0 hr hlk hl hw
  obtain ⟨hx, hb, hml, hown, hts⟩ := id C0
  replace hl : lv_has ls 7 [(0, .ref (ad k)), (1, .int p1), (2, .int p2), (3, .int p3), (4, .int p4), (5, .int p5)] := hl
  unfold fX9_copy at h
  refine lv_iload_n hx hb dX9_copy_0 rfl (lv_at hl 1 rfl) ?_
  refine lv_i2l hx hb dX9_copy_1 rfl ?_
  refine lv_lconst (v := (0 : Int64)) hx hb dX9_copy_2 (by decide) ?_
  refine lv_ldc2 (v := (7 : Int64)) hx hb hown (hts (.constantLong RX9 118 (7)) (by decide +kernel)) dX9_copy_3 ?_
  obtain ⟨o1, hco1, h⟩ := q_bind h
  refine q_calli hw (va_runS (As := [.long p1.toInt64, .long (0 : Int64), .long (7 : Int64)]) (rest := []) C0 (kX9_in hco1 _) (va_cwS 3 hts gX9_copy_X9_in rfl rfl rfl eX9_in ⟨(Nat.le_of_ble_eq_true rfl), (Nat.le_of_ble_eq_true rfl)⟩) ⟨q_blind, q_pre hw⟩ rfl rfl hl.1 rfl (lv_room (Nat.le_of_ble_eq_true rfl)) dX9_copy_6 ⟨Nat.zero_le _, Nat.zero_le _⟩) (fun H locs hw => ?_)
  refine lv_if_eq (tgt := 24) hx hb dX9_copy_9 (by decide) (fun c2 => ?_) (fun c2 => ?_)
  · replace h := q_t h c2
    refine lv_aload_n hx hb dX9_copy_24 rfl (lv_at hl 0 rfl) ?_
    refine lv_bipush (v := (-2 : Int32)) hx hb dX9_copy_25 (by decide) ?_
    obtain ⟨o3, hco3, h⟩ := q_bind h
    refine q_calli hw (va_runV (As := [.int (-2 : Int32)]) (rest := []) C0 (kX9_refuse hk hco3 _) (cwV 1 hts gX9_copy_X9_refuse rfl rfl rfl eX9_refuse ⟨(Nat.le_of_ble_eq_true rfl), (Nat.le_of_ble_eq_true rfl)⟩) ⟨q_blind, q_recv hw (mN_0 hk) (mE_0 hk) rfl, q_pre hw⟩ rfl rfl hl.1 rfl (lv_room (Nat.le_of_ble_eq_true rfl)) dX9_copy_27 ⟨Nat.zero_le _, Nat.zero_le _⟩) (fun H locs hw => ?_)
    exact q_iret h C0 hr hlk hw dX9_copy_30
  · replace h := q_f h c2
    refine lv_iload_n hx hb dX9_copy_12 rfl (lv_at hl 2 rfl) ?_
    refine lv_i2l hx hb dX9_copy_13 rfl ?_
    refine lv_lconst (v := (0 : Int64)) hx hb dX9_copy_14 (by decide) ?_
    refine lv_ldc2 (v := (7 : Int64)) hx hb hown (hts (.constantLong RX9 118 (7)) (by decide +kernel)) dX9_copy_15 ?_
    obtain ⟨o4, hco4, h⟩ := q_bind h
    refine q_calli hw (va_runS (As := [.long p2.toInt64, .long (0 : Int64), .long (7 : Int64)]) (rest := []) C0 (kX9_in hco4 _) (va_cwS 3 hts gX9_copy_X9_in rfl rfl rfl eX9_in ⟨(Nat.le_of_ble_eq_true rfl), (Nat.le_of_ble_eq_true rfl)⟩) ⟨q_blind, q_pre hw⟩ rfl rfl hl.1 rfl (lv_room (Nat.le_of_ble_eq_true rfl)) dX9_copy_18 ⟨Nat.zero_le _, Nat.zero_le _⟩) (fun H locs hw => ?_)
    refine lv_if_ne (tgt := 31) hx hb dX9_copy_21 (by decide) (fun c5 => ?_) (fun c5 => ?_)
    · replace h := q_f h c5
      refine lv_aload_n hx hb dX9_copy_31 rfl (lv_at hl 0 rfl) ?_
      refine gt_X9_0 C0 hw hk iX9_copy_X9 (by decide +kernel) dX9_copy_32 ?_
      refine lv_iload_n hx hb dX9_copy_35 rfl (lv_at hl 1 rfl) ?_
      obtain ⟨b6, h⟩ := q_if h
      refine q_iald (t0 := 0) C0 hw (mN_1 hk) (mE_1 hk) rfl b6 dX9_copy_36 ?_
      refine lv_iconst (v := (2 : Int32)) hx hb dX9_copy_37 (by decide) ?_
      refine lv_icmp_eq (tgt := 86) hx hb dX9_copy_38 (by decide) (fun c7 => ?_) (fun c7 => ?_)
      · replace h := q_t h c7
        refine lv_aload_n hx hb dX9_copy_86 rfl (lv_at hl 0 rfl) ?_
        refine lv_bipush (v := (-3 : Int32)) hx hb dX9_copy_87 (by decide) ?_
        obtain ⟨o8, hco8, h⟩ := q_bind h
        refine q_calli hw (va_runV (As := [.int (-3 : Int32)]) (rest := []) C0 (kX9_refuse hk hco8 _) (cwV 1 hts gX9_copy_X9_refuse rfl rfl rfl eX9_refuse ⟨(Nat.le_of_ble_eq_true rfl), (Nat.le_of_ble_eq_true rfl)⟩) ⟨q_blind, q_recv hw (mN_0 hk) (mE_0 hk) rfl, q_pre hw⟩ rfl rfl hl.1 rfl (lv_room (Nat.le_of_ble_eq_true rfl)) dX9_copy_89 ⟨Nat.zero_le _, Nat.zero_le _⟩) (fun H locs hw => ?_)
        exact q_iret h C0 hr hlk hw dX9_copy_92
      · replace h := q_f h c7
        refine lv_aload_n hx hb dX9_copy_41 rfl (lv_at hl 0 rfl) ?_
        refine gt_X9_0 C0 hw hk iX9_copy_X9 (by decide +kernel) dX9_copy_42 ?_
        refine lv_iload_n hx hb dX9_copy_45 rfl (lv_at hl 2 rfl) ?_
        obtain ⟨b9, h⟩ := q_if h
        refine q_iald (t0 := 0) C0 hw (mN_1 hk) (mE_1 hk) rfl b9 dX9_copy_46 ?_
        refine lv_iconst (v := (2 : Int32)) hx hb dX9_copy_47 (by decide) ?_
        refine lv_icmp_eq (tgt := 86) hx hb dX9_copy_48 (by decide) (fun c10 => ?_) (fun c10 => ?_)
        · replace h := q_t h c10
          refine lv_aload_n hx hb dX9_copy_86 rfl (lv_at hl 0 rfl) ?_
          refine lv_bipush (v := (-3 : Int32)) hx hb dX9_copy_87 (by decide) ?_
          obtain ⟨o11, hco11, h⟩ := q_bind h
          refine q_calli hw (va_runV (As := [.int (-3 : Int32)]) (rest := []) C0 (kX9_refuse hk hco11 _) (cwV 1 hts gX9_copy_X9_refuse rfl rfl rfl eX9_refuse ⟨(Nat.le_of_ble_eq_true rfl), (Nat.le_of_ble_eq_true rfl)⟩) ⟨q_blind, q_recv hw (mN_0 hk) (mE_0 hk) rfl, q_pre hw⟩ rfl rfl hl.1 rfl (lv_room (Nat.le_of_ble_eq_true rfl)) dX9_copy_89 ⟨Nat.zero_le _, Nat.zero_le _⟩) (fun H locs hw => ?_)
          exact q_iret h C0 hr hlk hw dX9_copy_92
        · replace h := q_f h c10
          refine lv_aload_n hx hb dX9_copy_51 rfl (lv_at hl 0 rfl) ?_
          refine gt_X9_0 C0 hw hk iX9_copy_X9 (by decide +kernel) dX9_copy_52 ?_
          refine lv_iload_n hx hb dX9_copy_55 rfl (lv_at hl 1 rfl) ?_
          obtain ⟨b12, h⟩ := q_if h
          refine q_iald (t0 := 0) C0 hw (mN_1 hk) (mE_1 hk) rfl b12 dX9_copy_56 ?_
          refine lv_iconst (v := (1 : Int32)) hx hb dX9_copy_57 (by decide) ?_
          refine lv_icmp_ne (tgt := 93) hx hb dX9_copy_58 (by decide) (fun c13 => ?_) (fun c13 => ?_)
          · replace h := q_f h c13
            exact tX9_copy_c93 hk C0 hr hlk o4.2 _ _ _ hw (lv_sub hl [0, 1, 2, 3, 4, 5] rfl) h
          · replace h := q_t h c13
            refine lv_aload_n hx hb dX9_copy_61 rfl (lv_at hl 0 rfl) ?_
            refine gt_X9_0 C0 hw hk iX9_copy_X9 (by decide +kernel) dX9_copy_62 ?_
            refine lv_iload_n hx hb dX9_copy_65 rfl (lv_at hl 2 rfl) ?_
            obtain ⟨b14, h⟩ := q_if h
            refine q_iald (t0 := 0) C0 hw (mN_1 hk) (mE_1 hk) rfl b14 dX9_copy_66 ?_
            refine lv_iconst (v := (1 : Int32)) hx hb dX9_copy_67 (by decide) ?_
            refine lv_icmp_ne (tgt := 93) hx hb dX9_copy_68 (by decide) (fun c15 => ?_) (fun c15 => ?_)
            · replace h := q_f h c15
              exact tX9_copy_c93 hk C0 hr hlk o4.2 _ _ _ hw (lv_sub hl [0, 1, 2, 3, 4, 5] rfl) h
            · replace h := q_t h c15
              refine lv_aload_n hx hb dX9_copy_71 rfl (lv_at hl 0 rfl) ?_
              refine gt_X9_1 C0 hw hk iX9_copy_X9 (by decide +kernel) dX9_copy_72 ?_
              refine lv_iload_n hx hb dX9_copy_75 rfl (lv_at hl 1 rfl) ?_
              obtain ⟨b16, h⟩ := q_if h
              refine q_iald (t0 := 0) C0 hw (mN_2 hk) (mE_2 hk) rfl b16 dX9_copy_76 ?_
              refine lv_aload_n hx hb dX9_copy_77 rfl (lv_at hl 0 rfl) ?_
              refine gt_X9_1 C0 hw hk iX9_copy_X9 (by decide +kernel) dX9_copy_78 ?_
              refine lv_iload_n hx hb dX9_copy_81 rfl (lv_at hl 2 rfl) ?_
              obtain ⟨b17, h⟩ := q_if h
              refine q_iald (t0 := 0) C0 hw (mN_2 hk) (mE_2 hk) rfl b17 dX9_copy_82 ?_
              refine lv_icmp_eq (tgt := 93) hx hb dX9_copy_83 (by decide) (fun c18 => ?_) (fun c18 => ?_)
              · replace h := q_t h c18
                exact tX9_copy_c93 hk C0 hr hlk o4.2 _ _ _ hw (lv_sub hl [0, 1, 2, 3, 4, 5] rfl) h
              · replace h := q_f h c18
                refine lv_aload_n hx hb dX9_copy_86 rfl (lv_at hl 0 rfl) ?_
                refine lv_bipush (v := (-3 : Int32)) hx hb dX9_copy_87 (by decide) ?_
                obtain ⟨o19, hco19, h⟩ := q_bind h
                refine q_calli hw (va_runV (As := [.int (-3 : Int32)]) (rest := []) C0 (kX9_refuse hk hco19 _) (cwV 1 hts gX9_copy_X9_refuse rfl rfl rfl eX9_refuse ⟨(Nat.le_of_ble_eq_true rfl), (Nat.le_of_ble_eq_true rfl)⟩) ⟨q_blind, q_recv hw (mN_0 hk) (mE_0 hk) rfl, q_pre hw⟩ rfl rfl hl.1 rfl (lv_room (Nat.le_of_ble_eq_true rfl)) dX9_copy_89 ⟨Nat.zero_le _, Nat.zero_le _⟩) (fun H locs hw => ?_)
                exact q_iret h C0 hr hlk hw dX9_copy_92
    · replace h := q_t h c5
      refine lv_aload_n hx hb dX9_copy_24 rfl (lv_at hl 0 rfl) ?_
      refine lv_bipush (v := (-2 : Int32)) hx hb dX9_copy_25 (by decide) ?_
      obtain ⟨o20, hco20, h⟩ := q_bind h
      refine q_calli hw (va_runV (As := [.int (-2 : Int32)]) (rest := []) C0 (kX9_refuse hk hco20 _) (cwV 1 hts gX9_copy_X9_refuse rfl rfl rfl eX9_refuse ⟨(Nat.le_of_ble_eq_true rfl), (Nat.le_of_ble_eq_true rfl)⟩) ⟨q_blind, q_recv hw (mN_0 hk) (mE_0 hk) rfl, q_pre hw⟩ rfl rfl hl.1 rfl (lv_room (Nat.le_of_ble_eq_true rfl)) dX9_copy_27 ⟨Nat.zero_le _, Nat.zero_le _⟩) (fun H locs hw => ?_)
      exact q_iret h C0 hr hlk hw dX9_copy_30
-- X9_element element(II)J
theorem iX9_element_X9 : ∀ w ∈ wsX90, w ∈ wsX9_element := by decide +kernel
set_option maxHeartbeats 4000000 in
set_option maxRecDepth 100000 in
theorem kX9_element {k : Nat} {p1 : Int32} {p2 : Int32} (hk : mB N k) {σ : q_M} {out : Int64 × q_M} (h : fX9_element k p1 p2 σ = some out) : q_Ml l (gM D cI cJ cR ad adK adV N) yX9_element wsX9_element { frames := 1, cells := 0, slots := 0, locals := 25 } [.ref (ad k), .int p1, .int p2] σ out := by
  refine q_Ml_of (cc := cX9_element) (maxL := 3) (ret := (some .long)) (by decide) rfl (Nat.le_of_ble_eq_true rfl) ?_
  intro p e s m below meth c ls C0 hr hlk hl hw
  obtain ⟨hx, hb, hml, hown, hts⟩ := id C0
  replace hl : lv_has ls 3 [(0, .ref (ad k)), (1, .int p1), (2, .int p2)] := hl
  unfold fX9_element at h
  refine lv_iload_n hx hb dX9_element_0 rfl (lv_at hl 1 rfl) ?_
  refine lv_i2l hx hb dX9_element_1 rfl ?_
  refine lv_lconst (v := (0 : Int64)) hx hb dX9_element_2 (by decide) ?_
  refine lv_ldc2 (v := (7 : Int64)) hx hb hown (hts (.constantLong RX9 118 (7)) (by decide +kernel)) dX9_element_3 ?_
  obtain ⟨o1, hco1, h⟩ := q_bind h
  refine q_calli hw (va_runS (As := [.long p1.toInt64, .long (0 : Int64), .long (7 : Int64)]) (rest := []) C0 (kX9_in hco1 _) (va_cwS 3 hts gX9_element_X9_in rfl rfl rfl eX9_in ⟨(Nat.le_of_ble_eq_true rfl), (Nat.le_of_ble_eq_true rfl)⟩) ⟨q_blind, q_pre hw⟩ rfl rfl hl.1 rfl (lv_room (Nat.le_of_ble_eq_true rfl)) dX9_element_6 ⟨Nat.zero_le _, Nat.zero_le _⟩) (fun H locs hw => ?_)
  refine lv_if_eq (tgt := 51) hx hb dX9_element_9 (by decide) (fun c2 => ?_) (fun c2 => ?_)
  · replace h := q_t h c2
    refine lv_lconst (v := (0 : Int64)) hx hb dX9_element_51 (by decide) ?_
    exact q_lret h C0 hr hlk hw dX9_element_52
  · replace h := q_f h c2
    refine lv_aload_n hx hb dX9_element_12 rfl (lv_at hl 0 rfl) ?_
    refine gt_X9_0 C0 hw hk iX9_element_X9 (by decide +kernel) dX9_element_13 ?_
    refine lv_iload_n hx hb dX9_element_16 rfl (lv_at hl 1 rfl) ?_
    obtain ⟨b3, h⟩ := q_if h
    refine q_iald (t0 := 0) C0 hw (mN_1 hk) (mE_1 hk) rfl b3 dX9_element_17 ?_
    refine lv_iconst (v := (1 : Int32)) hx hb dX9_element_18 (by decide) ?_
    refine lv_icmp_ne (tgt := 51) hx hb dX9_element_19 (by decide) (fun c4 => ?_) (fun c4 => ?_)
    · replace h := q_f h c4
      refine lv_lconst (v := (0 : Int64)) hx hb dX9_element_51 (by decide) ?_
      exact q_lret h C0 hr hlk hw dX9_element_52
    · replace h := q_t h c4
      refine lv_iload_n hx hb dX9_element_22 rfl (lv_at hl 2 rfl) ?_
      refine lv_i2l hx hb dX9_element_23 rfl ?_
      refine lv_lconst (v := (0 : Int64)) hx hb dX9_element_24 (by decide) ?_
      refine lv_aload_n hx hb dX9_element_25 rfl (lv_at hl 0 rfl) ?_
      refine gt_X9_2 C0 hw hk iX9_element_X9 (by decide +kernel) dX9_element_26 ?_
      refine lv_iload_n hx hb dX9_element_29 rfl (lv_at hl 1 rfl) ?_
      obtain ⟨b5, h⟩ := q_if h
      refine q_iald (t0 := 0) C0 hw (mN_3 hk) (mE_3 hk) rfl b5 dX9_element_30 ?_
      refine lv_iconst (v := (1 : Int32)) hx hb dX9_element_31 (by decide) ?_
      refine lv_isub hx hb dX9_element_32 ?_
      refine lv_i2l hx hb dX9_element_33 rfl ?_
      obtain ⟨o6, hco6, h⟩ := q_bind h
      refine q_calli hw (va_runS (As := [.long p2.toInt64, .long (0 : Int64), .long (((o1.2.1 (k + 3) p1.toNatClampNeg) - (1 : Int32)).toInt64)]) (rest := []) C0 (kX9_in hco6 _) (va_cwS 3 hts gX9_element_X9_in rfl rfl rfl eX9_in ⟨(Nat.le_of_ble_eq_true rfl), (Nat.le_of_ble_eq_true rfl)⟩) ⟨q_blind, q_pre hw⟩ rfl rfl hl.1 rfl (lv_room (Nat.le_of_ble_eq_true rfl)) dX9_element_34 ⟨Nat.zero_le _, Nat.zero_le _⟩) (fun H locs hw => ?_)
      refine lv_if_eq (tgt := 51) hx hb dX9_element_37 (by decide) (fun c7 => ?_) (fun c7 => ?_)
      · replace h := q_t h c7
        refine lv_lconst (v := (0 : Int64)) hx hb dX9_element_51 (by decide) ?_
        exact q_lret h C0 hr hlk hw dX9_element_52
      · replace h := q_f h c7
        refine lv_aload_n hx hb dX9_element_40 rfl (lv_at hl 0 rfl) ?_
        refine gt_X9_3 C0 hw hk iX9_element_X9 (by decide +kernel) dX9_element_41 ?_
        refine lv_iload_n hx hb dX9_element_44 rfl (lv_at hl 1 rfl) ?_
        obtain ⟨b8, h⟩ := q_if h
        refine m_aald C0 hw hk b8 dX9_element_45 ?_
        refine lv_iload_n hx hb dX9_element_46 rfl (lv_at hl 2 rfl) ?_
        obtain ⟨b9, h⟩ := q_if h
        refine q_lald (t0 := 1) C0 hw (mN_r ⟨hk, b8⟩) (mE_r ⟨hk, b8⟩) rfl b9 dX9_element_47 ?_
        refine lv_goto (tgt := 52) hx hb dX9_element_48 (by decide) ?_
        exact q_lret h C0 hr hlk hw dX9_element_52
-- X9_holds holds(I)I
theorem iX9_holds_X9 : ∀ w ∈ wsX90, w ∈ wsX9_holds := by decide +kernel
set_option maxHeartbeats 4000000 in
set_option maxRecDepth 100000 in
theorem kX9_holds {k : Nat} {p1 : Int32} (hk : mB N k) {σ : q_M} {out : Int32 × q_M} (h : fX9_holds k p1 σ = some out) : q_Mi l (gM D cI cJ cR ad adK adV N) yX9_holds wsX9_holds { frames := 1, cells := 0, slots := 0, locals := 25 } [.ref (ad k), .int p1] σ out := by
  refine q_Mi_of (cc := cX9_holds) (maxL := 2) (ret := (some .int)) (by decide) rfl (Nat.le_of_ble_eq_true rfl) ?_
  intro p e s m below meth c ls C0 hr hlk hl hw
  obtain ⟨hx, hb, hml, hown, hts⟩ := id C0
  replace hl : lv_has ls 2 [(0, .ref (ad k)), (1, .int p1)] := hl
  unfold fX9_holds at h
  refine lv_iload_n hx hb dX9_holds_0 rfl (lv_at hl 1 rfl) ?_
  refine lv_i2l hx hb dX9_holds_1 rfl ?_
  refine lv_lconst (v := (0 : Int64)) hx hb dX9_holds_2 (by decide) ?_
  refine lv_ldc2 (v := (7 : Int64)) hx hb hown (hts (.constantLong RX9 118 (7)) (by decide +kernel)) dX9_holds_3 ?_
  obtain ⟨o1, hco1, h⟩ := q_bind h
  refine q_calli hw (va_runS (As := [.long p1.toInt64, .long (0 : Int64), .long (7 : Int64)]) (rest := []) C0 (kX9_in hco1 _) (va_cwS 3 hts gX9_holds_X9_in rfl rfl rfl eX9_in ⟨(Nat.le_of_ble_eq_true rfl), (Nat.le_of_ble_eq_true rfl)⟩) ⟨q_blind, q_pre hw⟩ rfl rfl hl.1 rfl (lv_room (Nat.le_of_ble_eq_true rfl)) dX9_holds_6 ⟨Nat.zero_le _, Nat.zero_le _⟩) (fun H locs hw => ?_)
  refine lv_if_eq (tgt := 21) hx hb dX9_holds_9 (by decide) (fun c2 => ?_) (fun c2 => ?_)
  · replace h := q_t h c2
    refine lv_iconst (v := (-1 : Int32)) hx hb dX9_holds_21 (by decide) ?_
    exact q_iret h C0 hr hlk hw dX9_holds_22
  · replace h := q_f h c2
    refine lv_aload_n hx hb dX9_holds_12 rfl (lv_at hl 0 rfl) ?_
    refine gt_X9_0 C0 hw hk iX9_holds_X9 (by decide +kernel) dX9_holds_13 ?_
    refine lv_iload_n hx hb dX9_holds_16 rfl (lv_at hl 1 rfl) ?_
    obtain ⟨b3, h⟩ := q_if h
    refine q_iald (t0 := 0) C0 hw (mN_1 hk) (mE_1 hk) rfl b3 dX9_holds_17 ?_
    refine lv_if_ne (tgt := 23) hx hb dX9_holds_18 (by decide) (fun c4 => ?_) (fun c4 => ?_)
    · replace h := q_f h c4
      refine lv_aload_n hx hb dX9_holds_23 rfl (lv_at hl 0 rfl) ?_
      refine gt_X9_0 C0 hw hk iX9_holds_X9 (by decide +kernel) dX9_holds_24 ?_
      refine lv_iload_n hx hb dX9_holds_27 rfl (lv_at hl 1 rfl) ?_
      obtain ⟨b5, h⟩ := q_if h
      refine q_iald (t0 := 0) C0 hw (mN_1 hk) (mE_1 hk) rfl b5 dX9_holds_28 ?_
      refine lv_iconst (v := (1 : Int32)) hx hb dX9_holds_29 (by decide) ?_
      refine lv_icmp_ne (tgt := 42) hx hb dX9_holds_30 (by decide) (fun c6 => ?_) (fun c6 => ?_)
      · replace h := q_f h c6
        refine lv_bipush (v := (10 : Int32)) hx hb dX9_holds_42 (by decide) ?_
        refine lv_aload_n hx hb dX9_holds_44 rfl (lv_at hl 0 rfl) ?_
        refine gt_X9_5 C0 hw hk iX9_holds_X9 (by decide +kernel) dX9_holds_45 ?_
        refine lv_iload_n hx hb dX9_holds_48 rfl (lv_at hl 1 rfl) ?_
        obtain ⟨b7, h⟩ := q_if h
        refine q_iald (t0 := 0) C0 hw (mN_6 hk) (mE_6 hk) rfl b7 dX9_holds_49 ?_
        refine lv_iadd hx hb dX9_holds_50 ?_
        exact q_iret h C0 hr hlk hw dX9_holds_51
      · replace h := q_t h c6
        refine lv_aload_n hx hb dX9_holds_33 rfl (lv_at hl 0 rfl) ?_
        refine gt_X9_1 C0 hw hk iX9_holds_X9 (by decide +kernel) dX9_holds_34 ?_
        refine lv_iload_n hx hb dX9_holds_37 rfl (lv_at hl 1 rfl) ?_
        obtain ⟨b8, h⟩ := q_if h
        refine q_iald (t0 := 0) C0 hw (mN_2 hk) (mE_2 hk) rfl b8 dX9_holds_38 ?_
        refine lv_goto (tgt := 51) hx hb dX9_holds_39 (by decide) ?_
        exact q_iret h C0 hr hlk hw dX9_holds_51
    · replace h := q_t h c4
      refine lv_iconst (v := (-1 : Int32)) hx hb dX9_holds_21 (by decide) ?_
      exact q_iret h C0 hr hlk hw dX9_holds_22
-- X9_move move(IIII)I
theorem iX9_move_X9 : ∀ w ∈ wsX90, w ∈ wsX9_move := by decide +kernel
set_option maxHeartbeats 4000000 in
set_option maxRecDepth 100000 in
theorem kX9_move {k : Nat} {p1 : Int32} {p2 : Int32} {p3 : Int32} {p4 : Int32} (hk : mB N k) {σ : q_M} {out : Int32 × q_M} (h : fX9_move k p1 p2 p3 p4 σ = some out) : q_Mi l (gM D cI cJ cR ad adK adV N) yX9_move wsX9_move { frames := 1, cells := 0, slots := 0, locals := 25 } [.ref (ad k), .int p1, .int p2, .int p3, .int p4] σ out := by
  refine q_Mi_of (cc := cX9_move) (maxL := 5) (ret := (some .int)) (by decide) rfl (Nat.le_of_ble_eq_true rfl) ?_
  intro p e s m below meth c ls C0 hr hlk hl hw
  obtain ⟨hx, hb, hml, hown, hts⟩ := id C0
  replace hl : lv_has ls 5 [(0, .ref (ad k)), (1, .int p1), (2, .int p2), (3, .int p3), (4, .int p4)] := hl
  unfold fX9_move at h
  refine lv_iload_n hx hb dX9_move_0 rfl (lv_at hl 1 rfl) ?_
  refine lv_i2l hx hb dX9_move_1 rfl ?_
  refine lv_lconst (v := (0 : Int64)) hx hb dX9_move_2 (by decide) ?_
  refine lv_ldc2 (v := (7 : Int64)) hx hb hown (hts (.constantLong RX9 118 (7)) (by decide +kernel)) dX9_move_3 ?_
  obtain ⟨o1, hco1, h⟩ := q_bind h
  refine q_calli hw (va_runS (As := [.long p1.toInt64, .long (0 : Int64), .long (7 : Int64)]) (rest := []) C0 (kX9_in hco1 _) (va_cwS 3 hts gX9_move_X9_in rfl rfl rfl eX9_in ⟨(Nat.le_of_ble_eq_true rfl), (Nat.le_of_ble_eq_true rfl)⟩) ⟨q_blind, q_pre hw⟩ rfl rfl hl.1 rfl (lv_room (Nat.le_of_ble_eq_true rfl)) dX9_move_6 ⟨Nat.zero_le _, Nat.zero_le _⟩) (fun H locs hw => ?_)
  refine lv_if_eq (tgt := 49) hx hb dX9_move_9 (by decide) (fun c2 => ?_) (fun c2 => ?_)
  · replace h := q_t h c2
    refine lv_aload_n hx hb dX9_move_49 rfl (lv_at hl 0 rfl) ?_
    refine lv_bipush (v := (-2 : Int32)) hx hb dX9_move_50 (by decide) ?_
    obtain ⟨o3, hco3, h⟩ := q_bind h
    refine q_calli hw (va_runV (As := [.int (-2 : Int32)]) (rest := []) C0 (kX9_refuse hk hco3 _) (cwV 1 hts gX9_move_X9_refuse rfl rfl rfl eX9_refuse ⟨(Nat.le_of_ble_eq_true rfl), (Nat.le_of_ble_eq_true rfl)⟩) ⟨q_blind, q_recv hw (mN_0 hk) (mE_0 hk) rfl, q_pre hw⟩ rfl rfl hl.1 rfl (lv_room (Nat.le_of_ble_eq_true rfl)) dX9_move_52 ⟨Nat.zero_le _, Nat.zero_le _⟩) (fun H locs hw => ?_)
    exact q_iret h C0 hr hlk hw dX9_move_55
  · replace h := q_f h c2
    refine lv_iload_n hx hb dX9_move_12 rfl (lv_at hl 2 rfl) ?_
    refine lv_i2l hx hb dX9_move_13 rfl ?_
    refine lv_lconst (v := (1 : Int64)) hx hb dX9_move_14 (by decide) ?_
    refine lv_ldc2 (v := (5 : Int64)) hx hb hown (hts (.constantLong RX9 135 (5)) (by decide +kernel)) dX9_move_15 ?_
    obtain ⟨o4, hco4, h⟩ := q_bind h
    refine q_calli hw (va_runS (As := [.long p2.toInt64, .long (1 : Int64), .long (5 : Int64)]) (rest := []) C0 (kX9_in hco4 _) (va_cwS 3 hts gX9_move_X9_in rfl rfl rfl eX9_in ⟨(Nat.le_of_ble_eq_true rfl), (Nat.le_of_ble_eq_true rfl)⟩) ⟨q_blind, q_pre hw⟩ rfl rfl hl.1 rfl (lv_room (Nat.le_of_ble_eq_true rfl)) dX9_move_18 ⟨Nat.zero_le _, Nat.zero_le _⟩) (fun H locs hw => ?_)
    refine lv_if_eq (tgt := 49) hx hb dX9_move_21 (by decide) (fun c5 => ?_) (fun c5 => ?_)
    · replace h := q_t h c5
      refine lv_aload_n hx hb dX9_move_49 rfl (lv_at hl 0 rfl) ?_
      refine lv_bipush (v := (-2 : Int32)) hx hb dX9_move_50 (by decide) ?_
      obtain ⟨o6, hco6, h⟩ := q_bind h
      refine q_calli hw (va_runV (As := [.int (-2 : Int32)]) (rest := []) C0 (kX9_refuse hk hco6 _) (cwV 1 hts gX9_move_X9_refuse rfl rfl rfl eX9_refuse ⟨(Nat.le_of_ble_eq_true rfl), (Nat.le_of_ble_eq_true rfl)⟩) ⟨q_blind, q_recv hw (mN_0 hk) (mE_0 hk) rfl, q_pre hw⟩ rfl rfl hl.1 rfl (lv_room (Nat.le_of_ble_eq_true rfl)) dX9_move_52 ⟨Nat.zero_le _, Nat.zero_le _⟩) (fun H locs hw => ?_)
      exact q_iret h C0 hr hlk hw dX9_move_55
    · replace h := q_f h c5
      refine lv_iload_n hx hb dX9_move_24 rfl (lv_at hl 3 rfl) ?_
      refine lv_i2l hx hb dX9_move_25 rfl ?_
      refine lv_lconst (v := (0 : Int64)) hx hb dX9_move_26 (by decide) ?_
      refine lv_ldc2 (v := (5 : Int64)) hx hb hown (hts (.constantLong RX9 135 (5)) (by decide +kernel)) dX9_move_27 ?_
      obtain ⟨o7, hco7, h⟩ := q_bind h
      refine q_calli hw (va_runS (As := [.long p3.toInt64, .long (0 : Int64), .long (5 : Int64)]) (rest := []) C0 (kX9_in hco7 _) (va_cwS 3 hts gX9_move_X9_in rfl rfl rfl eX9_in ⟨(Nat.le_of_ble_eq_true rfl), (Nat.le_of_ble_eq_true rfl)⟩) ⟨q_blind, q_pre hw⟩ rfl rfl hl.1 rfl (lv_room (Nat.le_of_ble_eq_true rfl)) dX9_move_30 ⟨Nat.zero_le _, Nat.zero_le _⟩) (fun H locs hw => ?_)
      refine lv_if_eq (tgt := 49) hx hb dX9_move_33 (by decide) (fun c8 => ?_) (fun c8 => ?_)
      · replace h := q_t h c8
        refine lv_aload_n hx hb dX9_move_49 rfl (lv_at hl 0 rfl) ?_
        refine lv_bipush (v := (-2 : Int32)) hx hb dX9_move_50 (by decide) ?_
        obtain ⟨o9, hco9, h⟩ := q_bind h
        refine q_calli hw (va_runV (As := [.int (-2 : Int32)]) (rest := []) C0 (kX9_refuse hk hco9 _) (cwV 1 hts gX9_move_X9_refuse rfl rfl rfl eX9_refuse ⟨(Nat.le_of_ble_eq_true rfl), (Nat.le_of_ble_eq_true rfl)⟩) ⟨q_blind, q_recv hw (mN_0 hk) (mE_0 hk) rfl, q_pre hw⟩ rfl rfl hl.1 rfl (lv_room (Nat.le_of_ble_eq_true rfl)) dX9_move_52 ⟨Nat.zero_le _, Nat.zero_le _⟩) (fun H locs hw => ?_)
        exact q_iret h C0 hr hlk hw dX9_move_55
      · replace h := q_f h c8
        refine lv_iload hx hb dX9_move_36 (lv_at hl 4 rfl) ?_
        refine lv_i2l hx hb dX9_move_38 rfl ?_
        refine lv_lconst (v := (0 : Int64)) hx hb dX9_move_39 (by decide) ?_
        refine lv_ldc2 (v := (5 : Int64)) hx hb hown (hts (.constantLong RX9 135 (5)) (by decide +kernel)) dX9_move_40 ?_
        obtain ⟨o10, hco10, h⟩ := q_bind h
        refine q_calli hw (va_runS (As := [.long p4.toInt64, .long (0 : Int64), .long (5 : Int64)]) (rest := []) C0 (kX9_in hco10 _) (va_cwS 3 hts gX9_move_X9_in rfl rfl rfl eX9_in ⟨(Nat.le_of_ble_eq_true rfl), (Nat.le_of_ble_eq_true rfl)⟩) ⟨q_blind, q_pre hw⟩ rfl rfl hl.1 rfl (lv_room (Nat.le_of_ble_eq_true rfl)) dX9_move_43 ⟨Nat.zero_le _, Nat.zero_le _⟩) (fun H locs hw => ?_)
        refine lv_if_ne (tgt := 56) hx hb dX9_move_46 (by decide) (fun c11 => ?_) (fun c11 => ?_)
        · replace h := q_f h c11
          refine lv_aload_n hx hb dX9_move_56 rfl (lv_at hl 0 rfl) ?_
          refine gt_X9_0 C0 hw hk iX9_move_X9 (by decide +kernel) dX9_move_57 ?_
          refine lv_iload_n hx hb dX9_move_60 rfl (lv_at hl 1 rfl) ?_
          refine lv_iconst (v := (2 : Int32)) hx hb dX9_move_61 (by decide) ?_
          obtain ⟨b12, h⟩ := q_if h
          refine q_iast (t0 := 0) C0 hw (mN_1 hk) (mE_1 hk) rfl b12 dX9_move_62 (fun σ13 H locs e_σ13 hw => ?_)
          replace h := q_let_at e_σ13 h
          refine lv_aload_n hx hb dX9_move_63 rfl (lv_at hl 0 rfl) ?_
          refine gt_X9_5 C0 hw hk iX9_move_X9 (by decide +kernel) dX9_move_64 ?_
          refine lv_iload_n hx hb dX9_move_67 rfl (lv_at hl 1 rfl) ?_
          refine lv_iload_n hx hb dX9_move_68 rfl (lv_at hl 2 rfl) ?_
          obtain ⟨b14, h⟩ := q_if h
          refine q_iast (t0 := 0) C0 hw (mN_6 hk) (mE_6 hk) rfl b14 dX9_move_69 (fun σ15 H locs e_σ15 hw => ?_)
          replace h := q_let_at e_σ15 h
          refine lv_aload_n hx hb dX9_move_70 rfl (lv_at hl 0 rfl) ?_
          refine gt_X9_6 C0 hw hk iX9_move_X9 (by decide +kernel) dX9_move_71 ?_
          refine lv_iload_n hx hb dX9_move_74 rfl (lv_at hl 1 rfl) ?_
          refine lv_iload_n hx hb dX9_move_75 rfl (lv_at hl 3 rfl) ?_
          obtain ⟨b16, h⟩ := q_if h
          refine q_iast (t0 := 0) C0 hw (mN_7 hk) (mE_7 hk) rfl b16 dX9_move_76 (fun σ17 H locs e_σ17 hw => ?_)
          replace h := q_let_at e_σ17 h
          refine lv_aload_n hx hb dX9_move_77 rfl (lv_at hl 0 rfl) ?_
          refine gt_X9_7 C0 hw hk iX9_move_X9 (by decide +kernel) dX9_move_78 ?_
          refine lv_iload_n hx hb dX9_move_81 rfl (lv_at hl 1 rfl) ?_
          refine lv_iload hx hb dX9_move_82 (lv_at hl 4 rfl) ?_
          obtain ⟨b18, h⟩ := q_if h
          refine q_iast (t0 := 0) C0 hw (mN_8 hk) (mE_8 hk) rfl b18 dX9_move_84 (fun σ19 H locs e_σ19 hw => ?_)
          replace h := q_let_at e_σ19 h
          refine lv_iconst (v := (1 : Int32)) hx hb dX9_move_85 (by decide) ?_
          exact q_iret h C0 hr hlk hw dX9_move_86
        · replace h := q_t h c11
          refine lv_aload_n hx hb dX9_move_49 rfl (lv_at hl 0 rfl) ?_
          refine lv_bipush (v := (-2 : Int32)) hx hb dX9_move_50 (by decide) ?_
          obtain ⟨o20, hco20, h⟩ := q_bind h
          refine q_calli hw (va_runV (As := [.int (-2 : Int32)]) (rest := []) C0 (kX9_refuse hk hco20 _) (cwV 1 hts gX9_move_X9_refuse rfl rfl rfl eX9_refuse ⟨(Nat.le_of_ble_eq_true rfl), (Nat.le_of_ble_eq_true rfl)⟩) ⟨q_blind, q_recv hw (mN_0 hk) (mE_0 hk) rfl, q_pre hw⟩ rfl rfl hl.1 rfl (lv_room (Nat.le_of_ble_eq_true rfl)) dX9_move_52 ⟨Nat.zero_le _, Nat.zero_le _⟩) (fun H locs hw => ?_)
          exact q_iret h C0 hr hlk hw dX9_move_55
-- X9_isUnder isUnder(II)Z
set_option maxHeartbeats 4000000 in
set_option maxRecDepth 100000 in
theorem tX9_isUnder_c24 {p0 : Int32} {p1 : Int32}  (C0 : CallFix p m c cX9_isUnder 2 s args wsX9_isUnder RX9) (hr : meth.sig.returnType = (some .boolean)) (hlk : meth.locks = false) {out : Int32 × q_M}  : ∀  (σ : q_M) (H : Heap) (locs : List Loc) (ls : Array Slot), q_H (gM D cI cJ cR ad adK adV N) (q_A (gM D cI cJ cR ad adK adV N) s.heap.size) s σ H locs → lv_has ls 2 [(0, .int p0), (1, .int p1)] → fX9_isUnder_c24 p0 p1  σ = some out → W p l e { frames := 0, cells := 0, slots := 0, locals := 0 } s m args below meth c H locs 0 0 (MQ below (q_Ri (gM D cI cJ cR ad adK adV N) (q_A (gM D cI cJ cR ad adK adV N) s.heap.size) out) args s 0 0 (q_A (gM D cI cJ cR ad adK adV N) s.heap.size)) (F0 m 24 ls []) := by
  obtain ⟨hx, hb, hml, hown, hts⟩ := id C0
  intro  σ H locs ls  hw hl h
  unfold fX9_isUnder_c24 at h
  refine lv_iload_n hx hb dX9_isUnder_24 rfl (lv_at hl 1 rfl) ?_
  refine lv_iconst (v := (2 : Int32)) hx hb dX9_isUnder_25 (by decide) ?_
  refine lv_icmp_ne (tgt := 38) hx hb dX9_isUnder_26 (by decide) (fun c1 => ?_) (fun c1 => ?_)
  · replace h := q_f h c1
    refine lv_iconst (v := (0 : Int32)) hx hb dX9_isUnder_38 (by decide) ?_
    exact q_zret h C0 hr rfl hlk hw dX9_isUnder_39
  · replace h := q_t h c1
    refine lv_iload_n hx hb dX9_isUnder_29 rfl (lv_at hl 0 rfl) ?_
    refine lv_iconst (v := (5 : Int32)) hx hb dX9_isUnder_30 (by decide) ?_
    refine lv_icmp_ne (tgt := 38) hx hb dX9_isUnder_31 (by decide) (fun c2 => ?_) (fun c2 => ?_)
    · replace h := q_f h c2
      refine lv_iconst (v := (0 : Int32)) hx hb dX9_isUnder_38 (by decide) ?_
      exact q_zret h C0 hr rfl hlk hw dX9_isUnder_39
    · replace h := q_t h c2
      refine lv_iconst (v := (1 : Int32)) hx hb dX9_isUnder_34 (by decide) ?_
      refine lv_goto (tgt := 39) hx hb dX9_isUnder_35 (by decide) ?_
      exact q_zret h C0 hr rfl hlk hw dX9_isUnder_39
set_option maxHeartbeats 4000000 in
set_option maxRecDepth 100000 in
theorem kX9_isUnder {p0 : Int32} {p1 : Int32}  {σ : q_M} {out : Int32 × q_M} (h : fX9_isUnder p0 p1 σ = some out) : q_Mi l (gM D cI cJ cR ad adK adV N) yX9_isUnder wsX9_isUnder { frames := 0, cells := 0, slots := 0, locals := 0 } [.int p0, .int p1] σ out := by
  refine q_Mi_of (cc := cX9_isUnder) (maxL := 2) (ret := (some .boolean)) (by decide) rfl (Nat.le_of_ble_eq_true rfl) ?_
  intro p e s m below meth c ls C0 hr hlk hl hw
  obtain ⟨hx, hb, hml, hown, hts⟩ := id C0
  replace hl : lv_has ls 2 [(0, .int p0), (1, .int p1)] := hl
  unfold fX9_isUnder at h
  refine lv_iload_n hx hb dX9_isUnder_0 rfl (lv_at hl 1 rfl) ?_
  refine lv_if_eq (tgt := 34) hx hb dX9_isUnder_1 (by decide) (fun c1 => ?_) (fun c1 => ?_)
  · replace h := q_t h c1
    refine lv_iconst (v := (1 : Int32)) hx hb dX9_isUnder_34 (by decide) ?_
    refine lv_goto (tgt := 39) hx hb dX9_isUnder_35 (by decide) ?_
    exact q_zret h C0 hr rfl hlk hw dX9_isUnder_39
  · replace h := q_f h c1
    refine lv_iload_n hx hb dX9_isUnder_4 rfl (lv_at hl 0 rfl) ?_
    refine lv_iload_n hx hb dX9_isUnder_5 rfl (lv_at hl 1 rfl) ?_
    refine lv_icmp_eq (tgt := 34) hx hb dX9_isUnder_6 (by decide) (fun c2 => ?_) (fun c2 => ?_)
    · replace h := q_t h c2
      refine lv_iconst (v := (1 : Int32)) hx hb dX9_isUnder_34 (by decide) ?_
      refine lv_goto (tgt := 39) hx hb dX9_isUnder_35 (by decide) ?_
      exact q_zret h C0 hr rfl hlk hw dX9_isUnder_39
    · replace h := q_f h c2
      refine lv_iload_n hx hb dX9_isUnder_9 rfl (lv_at hl 1 rfl) ?_
      refine lv_iconst (v := (1 : Int32)) hx hb dX9_isUnder_10 (by decide) ?_
      refine lv_icmp_ne (tgt := 24) hx hb dX9_isUnder_11 (by decide) (fun c3 => ?_) (fun c3 => ?_)
      · replace h := q_f h c3
        exact tX9_isUnder_c24 C0 hr hlk σ _ _ _ hw (lv_sub hl [0, 1] rfl) h
      · replace h := q_t h c3
        refine lv_iload_n hx hb dX9_isUnder_14 rfl (lv_at hl 0 rfl) ?_
        refine lv_iconst (v := (3 : Int32)) hx hb dX9_isUnder_15 (by decide) ?_
        refine lv_icmp_eq (tgt := 34) hx hb dX9_isUnder_16 (by decide) (fun c4 => ?_) (fun c4 => ?_)
        · replace h := q_t h c4
          refine lv_iconst (v := (1 : Int32)) hx hb dX9_isUnder_34 (by decide) ?_
          refine lv_goto (tgt := 39) hx hb dX9_isUnder_35 (by decide) ?_
          exact q_zret h C0 hr rfl hlk hw dX9_isUnder_39
        · replace h := q_f h c4
          refine lv_iload_n hx hb dX9_isUnder_19 rfl (lv_at hl 0 rfl) ?_
          refine lv_iconst (v := (4 : Int32)) hx hb dX9_isUnder_20 (by decide) ?_
          refine lv_icmp_eq (tgt := 34) hx hb dX9_isUnder_21 (by decide) (fun c5 => ?_) (fun c5 => ?_)
          · replace h := q_t h c5
            refine lv_iconst (v := (1 : Int32)) hx hb dX9_isUnder_34 (by decide) ?_
            refine lv_goto (tgt := 39) hx hb dX9_isUnder_35 (by decide) ?_
            exact q_zret h C0 hr rfl hlk hw dX9_isUnder_39
          · replace h := q_f h c5
            exact tX9_isUnder_c24 C0 hr hlk σ _ _ _ hw (lv_sub hl [0, 1] rfl) h
-- X9_isAtEnd isAtEnd(JI)Z
theorem eX9_from : yX9_from.cls = RX9 ∧ yX9_from.cls ≠ "java/lang/invoke/MethodHandle" ∧ yX9_from.cls ≠ "java/lang/invoke/VarHandle" ∧ (parseMethodDescriptor yX9_from.desc).map (fun d => d.parameters.length) = some 2 := by decide +kernel
set_option maxHeartbeats 4000000 in
set_option maxRecDepth 100000 in
theorem tX9_isAtEnd_c3 {k : Nat} {p1 : Int64} {p3 : Int32} (hk : mB N k) (C0 : CallFix p m c cX9_isAtEnd 5 s args wsX9_isAtEnd RX9) (hr : meth.sig.returnType = (some .boolean)) (hlk : meth.locks = false) {out : Int32 × q_M}  : ∀ n : Nat, ∀ (v4 : Int32) (σ : q_M) (H : Heap) (locs : List Loc) (ls : Array Slot), q_H (gM D cI cJ cR ad adK adV N) (q_A (gM D cI cJ cR ad adK adV N) s.heap.size) s σ H locs → lv_has ls 5 [(0, .ref (ad k)), (1, .long p1), (3, .int p3), (4, .int v4)] → fX9_isAtEnd_c3 k p1 p3 n v4 σ = some out → W p l e { frames := 2, cells := 0, slots := 0, locals := 46 } s m args below meth c H locs 0 0 (MQ below (q_Ri (gM D cI cJ cR ad adK adV N) (q_A (gM D cI cJ cR ad adK adV N) s.heap.size) out) args s 0 0 (q_A (gM D cI cJ cR ad adK adV N) s.heap.size)) (F0 m 3 ls []) := by
  obtain ⟨hx, hb, hml, hown, hts⟩ := id C0
  intro n
  induction n with
  | zero =>
    intro v4 σ H locs ls  hw hl h
    cases (show (none : Option (Int32 × q_M)) = some out from h)
  | succ n hrec3 =>
    intro v4 σ H locs ls  hw hl h
    replace h : fX9_isAtEnd_c3b k p1 p3 (fX9_isAtEnd_c3 k p1 p3 n) v4 σ = some out := h
    unfold fX9_isAtEnd_c3b at h
    refine lv_iload hx hb dX9_isAtEnd_3 (lv_at hl 3 rfl) ?_
    refine lv_aload_n hx hb dX9_isAtEnd_5 rfl (lv_at hl 0 rfl) ?_
    obtain ⟨o1, hco1, h⟩ := q_bind h
    refine q_calli hw (va_runV (As := []) (rest := [.int v4]) C0 (kX9_many hk hco1 _) (cwV 0 hts gX9_isAtEnd_X9_many rfl rfl rfl eX9_many ⟨(Nat.le_of_ble_eq_true rfl), (Nat.le_of_ble_eq_true rfl)⟩) ⟨q_blind, q_recv hw (mN_0 hk) (mE_0 hk) rfl, q_pre hw⟩ rfl rfl hl.1 rfl (lv_room (Nat.le_of_ble_eq_true rfl)) dX9_isAtEnd_6 ⟨Nat.zero_le _, Nat.zero_le _⟩) (fun H locs hw => ?_)
    refine lv_icmp_ge (tgt := 40) hx hb dX9_isAtEnd_9 (by decide) (fun c2 => ?_) (fun c2 => ?_)
    · replace h := q_t h c2
      refine lv_iconst (v := (0 : Int32)) hx hb dX9_isAtEnd_40 (by decide) ?_
      exact q_zret h C0 hr rfl hlk hw dX9_isAtEnd_41
    · replace h := q_f h c2
      refine lv_lload_n hx hb dX9_isAtEnd_12 rfl (lv_at hl 1 rfl) ?_
      refine lv_iload hx hb dX9_isAtEnd_13 (lv_at hl 3 rfl) ?_
      obtain ⟨o3, hco3, h⟩ := q_bind h
      refine q_calli hw (va_runS (As := [.long p1, .int v4]) (rest := []) C0 (kX9_has hco3 _) (va_cwS 2 hts gX9_isAtEnd_X9_has rfl rfl rfl eX9_has ⟨(Nat.le_of_ble_eq_true rfl), (Nat.le_of_ble_eq_true rfl)⟩) ⟨q_blind, q_pre hw⟩ rfl rfl hl.1 rfl (lv_room (Nat.le_of_ble_eq_true rfl)) dX9_isAtEnd_15 ⟨Nat.zero_le _, Nat.zero_le _⟩) (fun H locs hw => ?_)
      refine lv_if_eq (tgt := 34) hx hb dX9_isAtEnd_18 (by decide) (fun c4 => ?_) (fun c4 => ?_)
      · replace h := q_t h c4
        refine lv_iinc (v := (v4 + (1 : Int32))) (lv' := [(4, .int (v4 + (1 : Int32))), (0, .ref (ad k)), (1, .long p1), (3, .int p3)]) hx hb dX9_isAtEnd_34 hl (k := 3) rfl rfl (by decide) rfl (fun ls hl => ?_)
        refine lv_goto (tgt := 3) hx hb dX9_isAtEnd_37 (by decide) ?_
        exact hrec3 (v4 + (1 : Int32)) o3.2 _ _ _ hw (lv_sub hl [1, 2, 3, 0] rfl) h
      · replace h := q_f h c4
        refine lv_aload_n hx hb dX9_isAtEnd_21 rfl (lv_at hl 0 rfl) ?_
        refine lv_iload hx hb dX9_isAtEnd_22 (lv_at hl 3 rfl) ?_
        refine lv_iload_n hx hb dX9_isAtEnd_24 rfl (lv_at hl 2 rfl) ?_
        obtain ⟨o5, hco5, h⟩ := q_bind h
        refine q_calli hw (va_runV (As := [.int v4, .int p3]) (rest := []) C0 (kX9_from hk hco5 _) (cwV 2 hts gX9_isAtEnd_X9_from rfl rfl rfl eX9_from ⟨(Nat.le_of_ble_eq_true rfl), (Nat.le_of_ble_eq_true rfl)⟩) ⟨q_blind, q_recv hw (mN_0 hk) (mE_0 hk) rfl, q_pre hw⟩ rfl rfl hl.1 rfl (lv_room (Nat.le_of_ble_eq_true rfl)) dX9_isAtEnd_25 ⟨Nat.zero_le _, Nat.zero_le _⟩) (fun H locs hw => ?_)
        refine lv_iconst (v := (-1 : Int32)) hx hb dX9_isAtEnd_28 (by decide) ?_
        refine lv_icmp_ne (tgt := 34) hx hb dX9_isAtEnd_29 (by decide) (fun c6 => ?_) (fun c6 => ?_)
        · replace h := q_f h c6
          refine lv_iinc (v := (v4 + (1 : Int32))) (lv' := [(4, .int (v4 + (1 : Int32))), (0, .ref (ad k)), (1, .long p1), (3, .int p3)]) hx hb dX9_isAtEnd_34 hl (k := 3) rfl rfl (by decide) rfl (fun ls hl => ?_)
          refine lv_goto (tgt := 3) hx hb dX9_isAtEnd_37 (by decide) ?_
          exact hrec3 (v4 + (1 : Int32)) o5.2 _ _ _ hw (lv_sub hl [1, 2, 3, 0] rfl) h
        · replace h := q_t h c6
          refine lv_iconst (v := (1 : Int32)) hx hb dX9_isAtEnd_32 (by decide) ?_
          exact q_zret h C0 hr rfl hlk hw dX9_isAtEnd_33
set_option maxHeartbeats 4000000 in
set_option maxRecDepth 100000 in
theorem kX9_isAtEnd {k : Nat} {p1 : Int64} {p3 : Int32} (hk : mB N k) {σ : q_M} {out : Int32 × q_M} (h : fX9_isAtEnd k p1 p3 σ = some out) : q_Mi l (gM D cI cJ cR ad adK adV N) yX9_isAtEnd wsX9_isAtEnd { frames := 2, cells := 0, slots := 0, locals := 46 } [.ref (ad k), .long p1, .int p3] σ out := by
  refine q_Mi_of (cc := cX9_isAtEnd) (maxL := 5) (ret := (some .boolean)) (by decide) rfl (Nat.le_of_ble_eq_true rfl) ?_
  intro p e s m below meth c ls C0 hr hlk hl hw
  obtain ⟨hx, hb, hml, hown, hts⟩ := id C0
  replace hl : lv_has ls 5 [(0, .ref (ad k)), (1, .long p1), (3, .int p3)] := hl
  unfold fX9_isAtEnd at h
  refine lv_iconst (v := (0 : Int32)) hx hb dX9_isAtEnd_0 (by decide) ?_
  refine lv_istore (lv' := [(4, .int (0 : Int32)), (0, .ref (ad k)), (1, .long p1), (3, .int p3)]) hx hb dX9_isAtEnd_1 hl (by decide) rfl (fun ls hl => ?_)
  exact tX9_isAtEnd_c3 hk C0 hr hlk q_FU (0 : Int32) σ _ _ _ hw (lv_sub hl [1, 2, 3, 0] rfl) h
-- X9_isInRow isInRow(JI)Z
set_option maxHeartbeats 4000000 in
set_option maxRecDepth 100000 in
theorem tX9_isInRow_c42 {k : Nat} {p1 : Int64} {p3 : Int32} {rec6 : Int32 → Int32 → q_M → Option (Int32 × q_M)} (hk : mB N k) (C0 : CallFix p m c cX9_isInRow 7 s args wsX9_isInRow RX9) (hr : meth.sig.returnType = (some .boolean)) (hlk : meth.locks = false) {out : Int32 × q_M} (hrec6 : ∀ (v4 : Int32) (v5 : Int32) (σ : q_M) (H : Heap) (locs : List Loc) (ls : Array Slot), q_H (gM D cI cJ cR ad adK adV N) (q_A (gM D cI cJ cR ad adK adV N) s.heap.size) s σ H locs → lv_has ls 7 [(0, .ref (ad k)), (1, .long p1), (3, .int p3), (4, .int v4), (5, .int v5)] → rec6 v4 v5 σ = some out → W p l e { frames := 1, cells := 0, slots := 0, locals := 22 } s m args below meth c H locs 0 0 (MQ below (q_Ri (gM D cI cJ cR ad adK adV N) (q_A (gM D cI cJ cR ad adK adV N) s.heap.size) out) args s 0 0 (q_A (gM D cI cJ cR ad adK adV N) s.heap.size)) (F0 m 6 ls [])) : ∀ n : Nat, ∀ (v4 : Int32) (v5 : Int32) (v6 : Int32) (σ : q_M) (H : Heap) (locs : List Loc) (ls : Array Slot), q_H (gM D cI cJ cR ad adK adV N) (q_A (gM D cI cJ cR ad adK adV N) s.heap.size) s σ H locs → lv_has ls 7 [(0, .ref (ad k)), (1, .long p1), (3, .int p3), (4, .int v4), (5, .int v5), (6, .int v6)] → fX9_isInRow_c42 k p1 p3 rec6 n v4 v5 v6 σ = some out → W p l e { frames := 1, cells := 0, slots := 0, locals := 22 } s m args below meth c H locs 0 0 (MQ below (q_Ri (gM D cI cJ cR ad adK adV N) (q_A (gM D cI cJ cR ad adK adV N) s.heap.size) out) args s 0 0 (q_A (gM D cI cJ cR ad adK adV N) s.heap.size)) (F0 m 42 ls []) := by
  obtain ⟨hx, hb, hml, hown, hts⟩ := id C0
  intro n
  induction n with
  | zero =>
    intro v4 v5 v6 σ H locs ls  hw hl h
    cases (show (none : Option (Int32 × q_M)) = some out from h)
  | succ n hrec42 =>
    intro v4 v5 v6 σ H locs ls  hw hl h
    replace h : fX9_isInRow_c42b k p1 p3 rec6 (fX9_isInRow_c42 k p1 p3 rec6 n) v4 v5 v6 σ = some out := h
    unfold fX9_isInRow_c42b at h
    refine lv_iload hx hb dX9_isInRow_42 (lv_at hl 5 rfl) ?_
    refine lv_iconst (v := (3 : Int32)) hx hb dX9_isInRow_44 (by decide) ?_
    refine lv_icmp_ge (tgt := 83) hx hb dX9_isInRow_45 (by decide) (fun c1 => ?_) (fun c1 => ?_)
    · replace h := q_t h c1
      refine lv_iinc (v := (v5 + (1 : Int32))) (lv' := [(5, .int (v5 + (1 : Int32))), (0, .ref (ad k)), (1, .long p1), (3, .int p3), (4, .int v4), (6, .int v6)]) hx hb dX9_isInRow_83 hl (k := 4) rfl rfl (by decide) rfl (fun ls hl => ?_)
      refine lv_goto (tgt := 6) hx hb dX9_isInRow_86 (by decide) ?_
      exact hrec6 v4 (v5 + (1 : Int32)) σ _ _ _ hw (lv_sub hl [1, 2, 3, 4, 0] rfl) h
    · replace h := q_f h c1
      refine lv_iload hx hb dX9_isInRow_48 (lv_at hl 5 rfl) ?_
      refine lv_iload_n hx hb dX9_isInRow_50 rfl (lv_at hl 2 rfl) ?_
      refine lv_iconst (v := (2 : Int32)) hx hb dX9_isInRow_51 (by decide) ?_
      refine lv_idiv hx hb dX9_isInRow_52 (by decide) ?_
      refine lv_icmp_eq (tgt := 77) hx hb dX9_isInRow_53 (by decide) (fun c2 => ?_) (fun c2 => ?_)
      · replace h := q_t h c2
        refine lv_iinc (v := (v6 + (1 : Int32))) (lv' := [(6, .int (v6 + (1 : Int32))), (0, .ref (ad k)), (1, .long p1), (3, .int p3), (4, .int v4), (5, .int v5)]) hx hb dX9_isInRow_77 hl (k := 5) rfl rfl (by decide) rfl (fun ls hl => ?_)
        refine lv_goto (tgt := 42) hx hb dX9_isInRow_80 (by decide) ?_
        exact hrec42 v4 v5 (v6 + (1 : Int32)) σ _ _ _ hw (lv_sub hl [1, 2, 3, 4, 5, 0] rfl) h
      · replace h := q_f h c2
        refine lv_aload_n hx hb dX9_isInRow_56 rfl (lv_at hl 0 rfl) ?_
        refine lv_iload hx hb dX9_isInRow_57 (lv_at hl 4 rfl) ?_
        refine lv_iload hx hb dX9_isInRow_59 (lv_at hl 5 rfl) ?_
        obtain ⟨o3, hco3, h⟩ := q_bind h
        refine q_calli hw (va_runV (As := [.int v5, .int v6]) (rest := []) C0 (kX9_sideOf hk hco3 _) (cwV 2 hts gX9_isInRow_X9_sideOf rfl rfl rfl eX9_sideOf ⟨(Nat.le_of_ble_eq_true rfl), (Nat.le_of_ble_eq_true rfl)⟩) ⟨q_blind, q_recv hw (mN_0 hk) (mE_0 hk) rfl, q_pre hw⟩ rfl rfl hl.1 rfl (lv_room (Nat.le_of_ble_eq_true rfl)) dX9_isInRow_61 ⟨Nat.zero_le _, Nat.zero_le _⟩) (fun H locs hw => ?_)
        refine lv_aload_n hx hb dX9_isInRow_64 rfl (lv_at hl 0 rfl) ?_
        refine lv_iload hx hb dX9_isInRow_65 (lv_at hl 3 rfl) ?_
        refine lv_iload hx hb dX9_isInRow_67 (lv_at hl 5 rfl) ?_
        obtain ⟨o4, hco4, h⟩ := q_bind h
        refine q_calli hw (va_runV (As := [.int v4, .int v6]) (rest := [.int o3.1]) C0 (kX9_sideOf hk hco4 _) (cwV 2 hts gX9_isInRow_X9_sideOf rfl rfl rfl eX9_sideOf ⟨(Nat.le_of_ble_eq_true rfl), (Nat.le_of_ble_eq_true rfl)⟩) ⟨q_blind, q_recv hw (mN_0 hk) (mE_0 hk) rfl, q_pre hw⟩ rfl rfl hl.1 rfl (lv_room (Nat.le_of_ble_eq_true rfl)) dX9_isInRow_69 ⟨Nat.zero_le _, Nat.zero_le _⟩) (fun H locs hw => ?_)
        refine lv_icmp_eq (tgt := 77) hx hb dX9_isInRow_72 (by decide) (fun c5 => ?_) (fun c5 => ?_)
        · replace h := q_t h c5
          refine lv_iinc (v := (v6 + (1 : Int32))) (lv' := [(6, .int (v6 + (1 : Int32))), (0, .ref (ad k)), (1, .long p1), (3, .int p3), (4, .int v4), (5, .int v5)]) hx hb dX9_isInRow_77 hl (k := 5) rfl rfl (by decide) rfl (fun ls hl => ?_)
          refine lv_goto (tgt := 42) hx hb dX9_isInRow_80 (by decide) ?_
          exact hrec42 v4 v5 (v6 + (1 : Int32)) o4.2 _ _ _ hw (lv_sub hl [1, 2, 3, 4, 5, 0] rfl) h
        · replace h := q_f h c5
          refine lv_iconst (v := (0 : Int32)) hx hb dX9_isInRow_75 (by decide) ?_
          exact q_zret h C0 hr rfl hlk hw dX9_isInRow_76
set_option maxHeartbeats 4000000 in
set_option maxRecDepth 100000 in
theorem tX9_isInRow_c6 {k : Nat} {p1 : Int64} {p3 : Int32} (hk : mB N k) (C0 : CallFix p m c cX9_isInRow 7 s args wsX9_isInRow RX9) (hr : meth.sig.returnType = (some .boolean)) (hlk : meth.locks = false) {out : Int32 × q_M}  : ∀ n : Nat, ∀ (v4 : Int32) (v5 : Int32) (σ : q_M) (H : Heap) (locs : List Loc) (ls : Array Slot), q_H (gM D cI cJ cR ad adK adV N) (q_A (gM D cI cJ cR ad adK adV N) s.heap.size) s σ H locs → lv_has ls 7 [(0, .ref (ad k)), (1, .long p1), (3, .int p3), (4, .int v4), (5, .int v5)] → fX9_isInRow_c6 k p1 p3 n v4 v5 σ = some out → W p l e { frames := 1, cells := 0, slots := 0, locals := 22 } s m args below meth c H locs 0 0 (MQ below (q_Ri (gM D cI cJ cR ad adK adV N) (q_A (gM D cI cJ cR ad adK adV N) s.heap.size) out) args s 0 0 (q_A (gM D cI cJ cR ad adK adV N) s.heap.size)) (F0 m 6 ls []) := by
  obtain ⟨hx, hb, hml, hown, hts⟩ := id C0
  intro n
  induction n with
  | zero =>
    intro v4 v5 σ H locs ls  hw hl h
    cases (show (none : Option (Int32 × q_M)) = some out from h)
  | succ n hrec6 =>
    intro v4 v5 σ H locs ls  hw hl h
    replace h : fX9_isInRow_c6b k p1 p3 (fX9_isInRow_c6 k p1 p3 n) v4 v5 σ = some out := h
    unfold fX9_isInRow_c6b at h
    refine lv_iload hx hb dX9_isInRow_6 (lv_at hl 4 rfl) ?_
    refine lv_aload_n hx hb dX9_isInRow_8 rfl (lv_at hl 0 rfl) ?_
    obtain ⟨o1, hco1, h⟩ := q_bind h
    refine q_calli hw (va_runV (As := []) (rest := [.int v5]) C0 (kX9_many hk hco1 _) (cwV 0 hts gX9_isInRow_X9_many rfl rfl rfl eX9_many ⟨(Nat.le_of_ble_eq_true rfl), (Nat.le_of_ble_eq_true rfl)⟩) ⟨q_blind, q_recv hw (mN_0 hk) (mE_0 hk) rfl, q_pre hw⟩ rfl rfl hl.1 rfl (lv_room (Nat.le_of_ble_eq_true rfl)) dX9_isInRow_9 ⟨Nat.zero_le _, Nat.zero_le _⟩) (fun H locs hw => ?_)
    refine lv_icmp_ge (tgt := 89) hx hb dX9_isInRow_12 (by decide) (fun c2 => ?_) (fun c2 => ?_)
    · replace h := q_t h c2
      refine lv_iconst (v := (1 : Int32)) hx hb dX9_isInRow_89 (by decide) ?_
      exact q_zret h C0 hr rfl hlk hw dX9_isInRow_90
    · replace h := q_f h c2
      refine lv_lload_n hx hb dX9_isInRow_15 rfl (lv_at hl 1 rfl) ?_
      refine lv_iload hx hb dX9_isInRow_16 (lv_at hl 4 rfl) ?_
      obtain ⟨o3, hco3, h⟩ := q_bind h
      refine q_calli hw (va_runS (As := [.long p1, .int v5]) (rest := []) C0 (kX9_has hco3 _) (va_cwS 2 hts gX9_isInRow_X9_has rfl rfl rfl eX9_has ⟨(Nat.le_of_ble_eq_true rfl), (Nat.le_of_ble_eq_true rfl)⟩) ⟨q_blind, q_pre hw⟩ rfl rfl hl.1 rfl (lv_room (Nat.le_of_ble_eq_true rfl)) dX9_isInRow_18 ⟨Nat.zero_le _, Nat.zero_le _⟩) (fun H locs hw => ?_)
      refine lv_if_eq (tgt := 83) hx hb dX9_isInRow_21 (by decide) (fun c4 => ?_) (fun c4 => ?_)
      · replace h := q_t h c4
        refine lv_iinc (v := (v5 + (1 : Int32))) (lv' := [(5, .int (v5 + (1 : Int32))), (0, .ref (ad k)), (1, .long p1), (3, .int p3), (4, .int v4)]) hx hb dX9_isInRow_83 hl (k := 4) rfl rfl (by decide) rfl (fun ls hl => ?_)
        refine lv_goto (tgt := 6) hx hb dX9_isInRow_86 (by decide) ?_
        exact hrec6 v4 (v5 + (1 : Int32)) o3.2 _ _ _ hw (lv_sub hl [1, 2, 3, 4, 0] rfl) h
      · replace h := q_f h c4
        refine lv_iload hx hb dX9_isInRow_24 (lv_at hl 3 rfl) ?_
        refine lv_iconst (v := (-1 : Int32)) hx hb dX9_isInRow_26 (by decide) ?_
        refine lv_icmp_ne (tgt := 35) hx hb dX9_isInRow_27 (by decide) (fun c5 => ?_) (fun c5 => ?_)
        · replace h := q_f h c5
          refine lv_iload hx hb dX9_isInRow_35 (lv_at hl 3 rfl) ?_
          refine lv_istore (lv' := [(4, .int v4), (0, .ref (ad k)), (1, .long p1), (3, .int p3), (5, .int v5)]) hx hb dX9_isInRow_37 hl (by decide) rfl (fun ls hl => ?_)
          refine lv_iconst (v := (0 : Int32)) hx hb dX9_isInRow_39 (by decide) ?_
          refine lv_istore (lv' := [(6, .int (0 : Int32)), (4, .int v4), (0, .ref (ad k)), (1, .long p1), (3, .int p3), (5, .int v5)]) hx hb dX9_isInRow_40 hl (by decide) rfl (fun ls hl => ?_)
          exact tX9_isInRow_c42 hk C0 hr hlk hrec6 q_FU v4 v5 (0 : Int32) o3.2 _ _ _ hw (lv_sub hl [2, 3, 4, 1, 5, 0] rfl) h
        · replace h := q_t h c5
          refine lv_iload hx hb dX9_isInRow_30 (lv_at hl 4 rfl) ?_
          refine lv_goto (tgt := 37) hx hb dX9_isInRow_32 (by decide) ?_
          refine lv_istore (lv' := [(4, .int v5), (0, .ref (ad k)), (1, .long p1), (3, .int p3), (5, .int v5)]) hx hb dX9_isInRow_37 hl (by decide) rfl (fun ls hl => ?_)
          refine lv_iconst (v := (0 : Int32)) hx hb dX9_isInRow_39 (by decide) ?_
          refine lv_istore (lv' := [(6, .int (0 : Int32)), (4, .int v5), (0, .ref (ad k)), (1, .long p1), (3, .int p3), (5, .int v5)]) hx hb dX9_isInRow_40 hl (by decide) rfl (fun ls hl => ?_)
          exact tX9_isInRow_c42 hk C0 hr hlk hrec6 q_FU v5 v5 (0 : Int32) o3.2 _ _ _ hw (lv_sub hl [2, 3, 4, 1, 5, 0] rfl) h
set_option maxHeartbeats 4000000 in
set_option maxRecDepth 100000 in
theorem kX9_isInRow {k : Nat} {p1 : Int64} {p3 : Int32} (hk : mB N k) {σ : q_M} {out : Int32 × q_M} (h : fX9_isInRow k p1 p3 σ = some out) : q_Mi l (gM D cI cJ cR ad adK adV N) yX9_isInRow wsX9_isInRow { frames := 1, cells := 0, slots := 0, locals := 22 } [.ref (ad k), .long p1, .int p3] σ out := by
  refine q_Mi_of (cc := cX9_isInRow) (maxL := 7) (ret := (some .boolean)) (by decide) rfl (Nat.le_of_ble_eq_true rfl) ?_
  intro p e s m below meth c ls C0 hr hlk hl hw
  obtain ⟨hx, hb, hml, hown, hts⟩ := id C0
  replace hl : lv_has ls 7 [(0, .ref (ad k)), (1, .long p1), (3, .int p3)] := hl
  unfold fX9_isInRow at h
  refine lv_iconst (v := (-1 : Int32)) hx hb dX9_isInRow_0 (by decide) ?_
  refine lv_istore (lv' := [(4, .int (-1 : Int32)), (0, .ref (ad k)), (1, .long p1), (3, .int p3)]) hx hb dX9_isInRow_1 hl (by decide) rfl (fun ls hl => ?_)
  refine lv_iconst (v := (0 : Int32)) hx hb dX9_isInRow_3 (by decide) ?_
  refine lv_istore (lv' := [(5, .int (0 : Int32)), (4, .int (-1 : Int32)), (0, .ref (ad k)), (1, .long p1), (3, .int p3)]) hx hb dX9_isInRow_4 hl (by decide) rfl (fun ls hl => ?_)
  exact tX9_isInRow_c6 hk C0 hr hlk q_FU (-1 : Int32) (0 : Int32) σ _ _ _ hw (lv_sub hl [2, 3, 4, 1, 0] rfl) h
-- X9_onFrom onFrom(JI)J
set_option maxHeartbeats 4000000 in
set_option maxRecDepth 100000 in
theorem tX9_onFrom_c35 {k : Nat} {p1 : Int64} {p3 : Int32} {rec6 : Int64 → Int32 → q_M → Option (Int64 × q_M)} (hk : mB N k) (C0 : CallFix p m c cX9_onFrom 8 s args wsX9_onFrom RX9) (hr : meth.sig.returnType = (some .long)) (hlk : meth.locks = false) {out : Int64 × q_M} (hrec6 : ∀ (v4 : Int64) (v6 : Int32) (σ : q_M) (H : Heap) (locs : List Loc) (ls : Array Slot), q_H (gM D cI cJ cR ad adK adV N) (q_A (gM D cI cJ cR ad adK adV N) s.heap.size) s σ H locs → lv_has ls 8 [(0, .ref (ad k)), (1, .long p1), (3, .int p3), (4, .long v4), (6, .int v6)] → rec6 v4 v6 σ = some out → W p l e { frames := 2, cells := 0, slots := 0, locals := 46 } s m args below meth c H locs 0 0 (MQ below (q_Rl (gM D cI cJ cR ad adK adV N) (q_A (gM D cI cJ cR ad adK adV N) s.heap.size) out) args s 0 0 (q_A (gM D cI cJ cR ad adK adV N) s.heap.size)) (F0 m 6 ls [])) : ∀ (v4 : Int64) (v6 : Int32) (s0 : Int32) (σ : q_M) (H : Heap) (locs : List Loc) (ls : Array Slot), q_H (gM D cI cJ cR ad adK adV N) (q_A (gM D cI cJ cR ad adK adV N) s.heap.size) s σ H locs → lv_has ls 8 [(0, .ref (ad k)), (1, .long p1), (3, .int p3), (4, .long v4), (6, .int v6)] → fX9_onFrom_c35 k p1 p3 rec6 v4 v6 s0 σ = some out → W p l e { frames := 2, cells := 0, slots := 0, locals := 46 } s m args below meth c H locs 0 0 (MQ below (q_Rl (gM D cI cJ cR ad adK adV N) (q_A (gM D cI cJ cR ad adK adV N) s.heap.size) out) args s 0 0 (q_A (gM D cI cJ cR ad adK adV N) s.heap.size)) (F0 m 35 ls [.int s0]) := by
  obtain ⟨hx, hb, hml, hown, hts⟩ := id C0
  intro v4 v6 s0 σ H locs ls  hw hl h
  unfold fX9_onFrom_c35 at h
  refine lv_istore (lv' := [(7, .int s0), (0, .ref (ad k)), (1, .long p1), (3, .int p3), (4, .long v4), (6, .int v6)]) hx hb dX9_onFrom_35 hl (by decide) rfl (fun ls hl => ?_)
  refine lv_lload hx hb dX9_onFrom_37 (lv_at hl 4 rfl) ?_
  refine lv_iload hx hb dX9_onFrom_39 (lv_at hl 0 rfl) ?_
  refine lv_iconst (v := (-1 : Int32)) hx hb dX9_onFrom_41 (by decide) ?_
  refine lv_icmp_eq (tgt := 52) hx hb dX9_onFrom_42 (by decide) (fun c1 => ?_) (fun c1 => ?_)
  · replace h := q_t h c1
    refine lv_lconst (v := (0 : Int64)) hx hb dX9_onFrom_52 (by decide) ?_
    refine lv_lor hx hb dX9_onFrom_53 ?_
    refine lv_lstore (lv' := [(4, .long (v4 ||| (0 : Int64))), (7, .int s0), (0, .ref (ad k)), (1, .long p1), (3, .int p3), (6, .int v6)]) hx hb dX9_onFrom_54 hl (by decide) rfl (fun ls hl => ?_)
    refine lv_iinc (v := (v6 + (1 : Int32))) (lv' := [(6, .int (v6 + (1 : Int32))), (4, .long (v4 ||| (0 : Int64))), (7, .int s0), (0, .ref (ad k)), (1, .long p1), (3, .int p3)]) hx hb dX9_onFrom_56 hl (k := 5) rfl rfl (by decide) rfl (fun ls hl => ?_)
    refine lv_goto (tgt := 6) hx hb dX9_onFrom_59 (by decide) ?_
    exact hrec6 (v4 ||| (0 : Int64)) (v6 + (1 : Int32)) σ _ _ _ hw (lv_sub hl [3, 4, 5, 1, 0] rfl) h
  · replace h := q_f h c1
    refine lv_lconst (v := (1 : Int64)) hx hb dX9_onFrom_45 (by decide) ?_
    refine lv_iload hx hb dX9_onFrom_46 (lv_at hl 0 rfl) ?_
    refine lv_lshl (v := (q_shl (1 : Int64) s0)) hx hb dX9_onFrom_48 rfl ?_
    refine lv_goto (tgt := 53) hx hb dX9_onFrom_49 (by decide) ?_
    refine lv_lor hx hb dX9_onFrom_53 ?_
    refine lv_topl (fun x2 e_x2 => ?_)
    replace h := q_let_at e_x2 h
    refine lv_lstore (lv' := [(4, .long x2), (7, .int s0), (0, .ref (ad k)), (1, .long p1), (3, .int p3), (6, .int v6)]) hx hb dX9_onFrom_54 hl (by decide) rfl (fun ls hl => ?_)
    refine lv_iinc (v := (v6 + (1 : Int32))) (lv' := [(6, .int (v6 + (1 : Int32))), (4, .long x2), (7, .int s0), (0, .ref (ad k)), (1, .long p1), (3, .int p3)]) hx hb dX9_onFrom_56 hl (k := 5) rfl rfl (by decide) rfl (fun ls hl => ?_)
    refine lv_goto (tgt := 6) hx hb dX9_onFrom_59 (by decide) ?_
    exact hrec6 x2 (v6 + (1 : Int32)) σ _ _ _ hw (lv_sub hl [3, 4, 5, 1, 0] rfl) h
set_option maxHeartbeats 4000000 in
set_option maxRecDepth 100000 in
theorem tX9_onFrom_c6 {k : Nat} {p1 : Int64} {p3 : Int32} (hk : mB N k) (C0 : CallFix p m c cX9_onFrom 8 s args wsX9_onFrom RX9) (hr : meth.sig.returnType = (some .long)) (hlk : meth.locks = false) {out : Int64 × q_M}  : ∀ n : Nat, ∀ (v4 : Int64) (v6 : Int32) (σ : q_M) (H : Heap) (locs : List Loc) (ls : Array Slot), q_H (gM D cI cJ cR ad adK adV N) (q_A (gM D cI cJ cR ad adK adV N) s.heap.size) s σ H locs → lv_has ls 8 [(0, .ref (ad k)), (1, .long p1), (3, .int p3), (4, .long v4), (6, .int v6)] → fX9_onFrom_c6 k p1 p3 n v4 v6 σ = some out → W p l e { frames := 2, cells := 0, slots := 0, locals := 46 } s m args below meth c H locs 0 0 (MQ below (q_Rl (gM D cI cJ cR ad adK adV N) (q_A (gM D cI cJ cR ad adK adV N) s.heap.size) out) args s 0 0 (q_A (gM D cI cJ cR ad adK adV N) s.heap.size)) (F0 m 6 ls []) := by
  obtain ⟨hx, hb, hml, hown, hts⟩ := id C0
  intro n
  induction n with
  | zero =>
    intro v4 v6 σ H locs ls  hw hl h
    cases (show (none : Option (Int64 × q_M)) = some out from h)
  | succ n hrec6 =>
    intro v4 v6 σ H locs ls  hw hl h
    replace h : fX9_onFrom_c6b k p1 p3 (fX9_onFrom_c6 k p1 p3 n) v4 v6 σ = some out := h
    unfold fX9_onFrom_c6b at h
    refine lv_iload hx hb dX9_onFrom_6 (lv_at hl 4 rfl) ?_
    refine lv_aload_n hx hb dX9_onFrom_8 rfl (lv_at hl 0 rfl) ?_
    obtain ⟨o1, hco1, h⟩ := q_bind h
    refine q_calli hw (va_runV (As := []) (rest := [.int v6]) C0 (kX9_many hk hco1 _) (cwV 0 hts gX9_onFrom_X9_many rfl rfl rfl eX9_many ⟨(Nat.le_of_ble_eq_true rfl), (Nat.le_of_ble_eq_true rfl)⟩) ⟨q_blind, q_recv hw (mN_0 hk) (mE_0 hk) rfl, q_pre hw⟩ rfl rfl hl.1 rfl (lv_room (Nat.le_of_ble_eq_true rfl)) dX9_onFrom_9 ⟨Nat.zero_le _, Nat.zero_le _⟩) (fun H locs hw => ?_)
    refine lv_icmp_ge (tgt := 62) hx hb dX9_onFrom_12 (by decide) (fun c2 => ?_) (fun c2 => ?_)
    · replace h := q_t h c2
      refine lv_lload hx hb dX9_onFrom_62 (lv_at hl 3 rfl) ?_
      exact q_lret h C0 hr hlk hw dX9_onFrom_64
    · replace h := q_f h c2
      refine lv_lload_n hx hb dX9_onFrom_15 rfl (lv_at hl 1 rfl) ?_
      refine lv_iload hx hb dX9_onFrom_16 (lv_at hl 4 rfl) ?_
      obtain ⟨o3, hco3, h⟩ := q_bind h
      refine q_calli hw (va_runS (As := [.long p1, .int v6]) (rest := []) C0 (kX9_has hco3 _) (va_cwS 2 hts gX9_onFrom_X9_has rfl rfl rfl eX9_has ⟨(Nat.le_of_ble_eq_true rfl), (Nat.le_of_ble_eq_true rfl)⟩) ⟨q_blind, q_pre hw⟩ rfl rfl hl.1 rfl (lv_room (Nat.le_of_ble_eq_true rfl)) dX9_onFrom_18 ⟨Nat.zero_le _, Nat.zero_le _⟩) (fun H locs hw => ?_)
      refine lv_if_eq (tgt := 34) hx hb dX9_onFrom_21 (by decide) (fun c4 => ?_) (fun c4 => ?_)
      · replace h := q_t h c4
        refine lv_iconst (v := (-1 : Int32)) hx hb dX9_onFrom_34 (by decide) ?_
        exact tX9_onFrom_c35 hk C0 hr hlk hrec6 v4 v6 (-1 : Int32) o3.2 _ _ _ hw (lv_sub hl [0, 1, 2, 3, 4] rfl) h
      · replace h := q_f h c4
        refine lv_aload_n hx hb dX9_onFrom_24 rfl (lv_at hl 0 rfl) ?_
        refine lv_iload hx hb dX9_onFrom_25 (lv_at hl 4 rfl) ?_
        refine lv_iload_n hx hb dX9_onFrom_27 rfl (lv_at hl 2 rfl) ?_
        obtain ⟨o5, hco5, h⟩ := q_bind h
        refine q_calli hw (va_runV (As := [.int v6, .int p3]) (rest := []) C0 (kX9_from hk hco5 _) (cwV 2 hts gX9_onFrom_X9_from rfl rfl rfl eX9_from ⟨(Nat.le_of_ble_eq_true rfl), (Nat.le_of_ble_eq_true rfl)⟩) ⟨q_blind, q_recv hw (mN_0 hk) (mE_0 hk) rfl, q_pre hw⟩ rfl rfl hl.1 rfl (lv_room (Nat.le_of_ble_eq_true rfl)) dX9_onFrom_28 ⟨Nat.zero_le _, Nat.zero_le _⟩) (fun H locs hw => ?_)
        refine lv_goto (tgt := 35) hx hb dX9_onFrom_31 (by decide) ?_
        exact tX9_onFrom_c35 hk C0 hr hlk hrec6 v4 v6 o5.1 o5.2 _ _ _ hw (lv_sub hl [0, 1, 2, 3, 4] rfl) h
set_option maxHeartbeats 4000000 in
set_option maxRecDepth 100000 in
theorem kX9_onFrom {k : Nat} {p1 : Int64} {p3 : Int32} (hk : mB N k) {σ : q_M} {out : Int64 × q_M} (h : fX9_onFrom k p1 p3 σ = some out) : q_Ml l (gM D cI cJ cR ad adK adV N) yX9_onFrom wsX9_onFrom { frames := 2, cells := 0, slots := 0, locals := 46 } [.ref (ad k), .long p1, .int p3] σ out := by
  refine q_Ml_of (cc := cX9_onFrom) (maxL := 8) (ret := (some .long)) (by decide) rfl (Nat.le_of_ble_eq_true rfl) ?_
  intro p e s m below meth c ls C0 hr hlk hl hw
  obtain ⟨hx, hb, hml, hown, hts⟩ := id C0
  replace hl : lv_has ls 8 [(0, .ref (ad k)), (1, .long p1), (3, .int p3)] := hl
  unfold fX9_onFrom at h
  refine lv_lconst (v := (0 : Int64)) hx hb dX9_onFrom_0 (by decide) ?_
  refine lv_lstore (lv' := [(4, .long (0 : Int64)), (0, .ref (ad k)), (1, .long p1), (3, .int p3)]) hx hb dX9_onFrom_1 hl (by decide) rfl (fun ls hl => ?_)
  refine lv_iconst (v := (0 : Int32)) hx hb dX9_onFrom_3 (by decide) ?_
  refine lv_istore (lv' := [(6, .int (0 : Int32)), (4, .long (0 : Int64)), (0, .ref (ad k)), (1, .long p1), (3, .int p3)]) hx hb dX9_onFrom_4 hl (by decide) rfl (fun ls hl => ?_)
  exact tX9_onFrom_c6 hk C0 hr hlk q_FU (0 : Int64) (0 : Int32) σ _ _ _ hw (lv_sub hl [2, 3, 4, 1, 0] rfl) h
-- X9_comesBy comesBy(IJJ)Z
theorem iX9_comesBy_X9 : ∀ w ∈ wsX90, w ∈ wsX9_comesBy := by decide +kernel
theorem eX9_isAtEnd : yX9_isAtEnd.cls = RX9 ∧ yX9_isAtEnd.cls ≠ "java/lang/invoke/MethodHandle" ∧ yX9_isAtEnd.cls ≠ "java/lang/invoke/VarHandle" ∧ (parseMethodDescriptor yX9_isAtEnd.desc).map (fun d => d.parameters.length) = some 2 := by decide +kernel
theorem eX9_isInRow : yX9_isInRow.cls = RX9 ∧ yX9_isInRow.cls ≠ "java/lang/invoke/MethodHandle" ∧ yX9_isInRow.cls ≠ "java/lang/invoke/VarHandle" ∧ (parseMethodDescriptor yX9_isInRow.desc).map (fun d => d.parameters.length) = some 2 := by decide +kernel
theorem eX9_onFrom : yX9_onFrom.cls = RX9 ∧ yX9_onFrom.cls ≠ "java/lang/invoke/MethodHandle" ∧ yX9_onFrom.cls ≠ "java/lang/invoke/VarHandle" ∧ (parseMethodDescriptor yX9_onFrom.desc).map (fun d => d.parameters.length) = some 2 := by decide +kernel
set_option maxHeartbeats 4000000 in
set_option maxRecDepth 100000 in
theorem tX9_comesBy_c120 {k : Nat} {p1 : Int32} {p2 : Int64} {p4 : Int64} {rec87 : Int32 → Int32 → Int64 → Int32 → q_M → Option (Int32 × q_M)} (hk : mB N k) (C0 : CallFix p m c cX9_comesBy 12 s args wsX9_comesBy RX9) (hr : meth.sig.returnType = (some .boolean)) (hlk : meth.locks = false) {out : Int32 × q_M} (hrec87 : ∀ (v7 : Int32) (v8 : Int32) (v9 : Int64) (v11 : Int32) (σ : q_M) (H : Heap) (locs : List Loc) (ls : Array Slot), q_H (gM D cI cJ cR ad adK adV N) (q_A (gM D cI cJ cR ad adK adV N) s.heap.size) s σ H locs → lv_has ls 12 [(0, .ref (ad k)), (1, .int p1), (4, .long p4), (7, .int v7), (8, .int v8), (9, .long v9), (11, .int v11)] → rec87 v7 v8 v9 v11 σ = some out → W p l e { frames := 3, cells := 0, slots := 0, locals := 73 } s m args below meth c H locs 0 0 (MQ below (q_Ri (gM D cI cJ cR ad adK adV N) (q_A (gM D cI cJ cR ad adK adV N) s.heap.size) out) args s 0 0 (q_A (gM D cI cJ cR ad adK adV N) s.heap.size)) (F0 m 87 ls [])) : ∀ (v7 : Int32) (v8 : Int32) (v11 : Int32) (s0 : Int32) (s1 : Int64) (σ : q_M) (H : Heap) (locs : List Loc) (ls : Array Slot), q_H (gM D cI cJ cR ad adK adV N) (q_A (gM D cI cJ cR ad adK adV N) s.heap.size) s σ H locs → lv_has ls 12 [(0, .ref (ad k)), (1, .int p1), (4, .long p4), (7, .int v7), (8, .int v8), (11, .int v11)] → fX9_comesBy_c120 k p1 p2 p4 rec87 v7 v8 v11 s0 s1 σ = some out → W p l e { frames := 3, cells := 0, slots := 0, locals := 73 } s m args below meth c H locs 0 0 (MQ below (q_Ri (gM D cI cJ cR ad adK adV N) (q_A (gM D cI cJ cR ad adK adV N) s.heap.size) out) args s 0 0 (q_A (gM D cI cJ cR ad adK adV N) s.heap.size)) (F0 m 120 ls [.int s0, .long s1, .ref (ad k)]) := by
  obtain ⟨hx, hb, hml, hown, hts⟩ := id C0
  intro v7 v8 v11 s0 s1 σ H locs ls  hw hl h
  unfold fX9_comesBy_c120 at h
  obtain ⟨o1, hco1, h⟩ := q_bind h
  refine q_calll hw (va_runV (As := [.long s1, .int s0]) (rest := []) C0 (kX9_onFrom hk hco1 _) (cwV 2 hts gX9_comesBy_X9_onFrom rfl rfl rfl eX9_onFrom ⟨(Nat.le_of_ble_eq_true rfl), (Nat.le_of_ble_eq_true rfl)⟩) ⟨q_blind, q_recv hw (mN_0 hk) (mE_0 hk) rfl, q_pre hw⟩ rfl rfl hl.1 rfl (lv_room (Nat.le_of_ble_eq_true rfl)) dX9_comesBy_120 ⟨Nat.zero_le _, Nat.zero_le _⟩) (fun H locs hw => ?_)
  refine lv_lstore (lv' := [(9, .long o1.1), (0, .ref (ad k)), (1, .int p1), (4, .long p4), (7, .int v7), (8, .int v8), (11, .int v11)]) hx hb dX9_comesBy_123 hl (by decide) rfl (fun ls hl => ?_)
  refine lv_lload hx hb dX9_comesBy_125 (lv_at hl 0 rfl) ?_
  refine lv_lload hx hb dX9_comesBy_127 (lv_at hl 3 rfl) ?_
  refine lv_land hx hb dX9_comesBy_129 ?_
  refine lv_lconst (v := (0 : Int64)) hx hb dX9_comesBy_130 (by decide) ?_
  refine q_lcmp_eq (tgt := 137) C0 dX9_comesBy_131 dX9_comesBy_132 (by decide) (fun c2 => ?_) (fun c2 => ?_)
  · replace h := q_t h c2
    refine lv_iinc (v := (v11 + (1 : Int32))) (lv' := [(11, .int (v11 + (1 : Int32))), (9, .long o1.1), (0, .ref (ad k)), (1, .int p1), (4, .long p4), (7, .int v7), (8, .int v8)]) hx hb dX9_comesBy_137 hl (k := 6) rfl rfl (by decide) rfl (fun ls hl => ?_)
    refine lv_goto (tgt := 87) hx hb dX9_comesBy_140 (by decide) ?_
    exact hrec87 v7 v8 o1.1 (v11 + (1 : Int32)) o1.2 _ _ _ hw (lv_sub hl [2, 3, 4, 5, 6, 1, 0] rfl) h
  · replace h := q_f h c2
    refine lv_iconst (v := (0 : Int32)) hx hb dX9_comesBy_135 (by decide) ?_
    exact q_zret h C0 hr rfl hlk hw dX9_comesBy_136
set_option maxHeartbeats 4000000 in
set_option maxRecDepth 100000 in
theorem tX9_comesBy_c87 {k : Nat} {p1 : Int32} {p2 : Int64} {p4 : Int64} (hk : mB N k) (C0 : CallFix p m c cX9_comesBy 12 s args wsX9_comesBy RX9) (hr : meth.sig.returnType = (some .boolean)) (hlk : meth.locks = false) {out : Int32 × q_M}  : ∀ n : Nat, ∀ (v7 : Int32) (v8 : Int32) (v9 : Int64) (v11 : Int32) (σ : q_M) (H : Heap) (locs : List Loc) (ls : Array Slot), q_H (gM D cI cJ cR ad adK adV N) (q_A (gM D cI cJ cR ad adK adV N) s.heap.size) s σ H locs → lv_has ls 12 [(0, .ref (ad k)), (1, .int p1), (4, .long p4), (7, .int v7), (8, .int v8), (9, .long v9), (11, .int v11)] → fX9_comesBy_c87 k p1 p2 p4 n v7 v8 v9 v11 σ = some out → W p l e { frames := 3, cells := 0, slots := 0, locals := 73 } s m args below meth c H locs 0 0 (MQ below (q_Ri (gM D cI cJ cR ad adK adV N) (q_A (gM D cI cJ cR ad adK adV N) s.heap.size) out) args s 0 0 (q_A (gM D cI cJ cR ad adK adV N) s.heap.size)) (F0 m 87 ls []) := by
  obtain ⟨hx, hb, hml, hown, hts⟩ := id C0
  intro n
  induction n with
  | zero =>
    intro v7 v8 v9 v11 σ H locs ls  hw hl h
    cases (show (none : Option (Int32 × q_M)) = some out from h)
  | succ n hrec87 =>
    intro v7 v8 v9 v11 σ H locs ls  hw hl h
    replace h : fX9_comesBy_c87b k p1 p2 p4 (fX9_comesBy_c87 k p1 p2 p4 n) v7 v8 v9 v11 σ = some out := h
    unfold fX9_comesBy_c87b at h
    refine lv_lload hx hb dX9_comesBy_87 (lv_at hl 5 rfl) ?_
    refine lv_lconst (v := (0 : Int64)) hx hb dX9_comesBy_89 (by decide) ?_
    refine q_lcmp_eq (tgt := 143) C0 dX9_comesBy_90 dX9_comesBy_91 (by decide) (fun c1 => ?_) (fun c1 => ?_)
    · replace h := q_t h c1
      refine lv_iconst (v := (1 : Int32)) hx hb dX9_comesBy_143 (by decide) ?_
      exact q_zret h C0 hr rfl hlk hw dX9_comesBy_144
    · replace h := q_f h c1
      refine lv_aload_n hx hb dX9_comesBy_94 rfl (lv_at hl 0 rfl) ?_
      refine lv_lload hx hb dX9_comesBy_95 (lv_at hl 5 rfl) ?_
      refine lv_iload hx hb dX9_comesBy_97 (lv_at hl 6 rfl) ?_
      refine lv_iload hx hb dX9_comesBy_99 (lv_at hl 4 rfl) ?_
      refine lv_icmp_lt (tgt := 109) hx hb dX9_comesBy_101 (by decide) (fun c2 => ?_) (fun c2 => ?_)
      · replace h := q_t h c2
        refine lv_iload hx hb dX9_comesBy_109 (lv_at hl 3 rfl) ?_
        refine lv_goto (tgt := 120) hx hb dX9_comesBy_111 (by decide) ?_
        exact tX9_comesBy_c120 hk C0 hr hlk hrec87 v7 v8 v11 v7 v9 σ _ _ _ hw (lv_sub hl [0, 1, 2, 3, 4, 6] rfl) h
      · replace h := q_f h c2
        refine lv_iload hx hb dX9_comesBy_104 (lv_at hl 4 rfl) ?_
        refine lv_if_ne (tgt := 114) hx hb dX9_comesBy_106 (by decide) (fun c3 => ?_) (fun c3 => ?_)
        · replace h := q_f h c3
          refine lv_aload_n hx hb dX9_comesBy_114 rfl (lv_at hl 0 rfl) ?_
          refine gt_X9_7 C0 hw hk iX9_comesBy_X9 (by decide +kernel) dX9_comesBy_115 ?_
          refine lv_iload_n hx hb dX9_comesBy_118 rfl (lv_at hl 1 rfl) ?_
          obtain ⟨b4, h⟩ := q_if h
          refine q_iald (t0 := 0) C0 hw (mN_8 hk) (mE_8 hk) rfl b4 dX9_comesBy_119 ?_
          exact tX9_comesBy_c120 hk C0 hr hlk hrec87 v7 v8 v11 (σ.1 (k + 8) p1.toNatClampNeg) v9 σ _ _ _ hw (lv_sub hl [0, 1, 2, 3, 4, 6] rfl) h
        · replace h := q_t h c3
          refine lv_iload hx hb dX9_comesBy_109 (lv_at hl 3 rfl) ?_
          refine lv_goto (tgt := 120) hx hb dX9_comesBy_111 (by decide) ?_
          exact tX9_comesBy_c120 hk C0 hr hlk hrec87 v7 v8 v11 v7 v9 σ _ _ _ hw (lv_sub hl [0, 1, 2, 3, 4, 6] rfl) h
set_option maxHeartbeats 4000000 in
set_option maxRecDepth 100000 in
theorem tX9_comesBy_c58 {k : Nat} {p1 : Int32} {p2 : Int64} {p4 : Int64} (hk : mB N k) (C0 : CallFix p m c cX9_comesBy 12 s args wsX9_comesBy RX9) (hr : meth.sig.returnType = (some .boolean)) (hlk : meth.locks = false) {out : Int32 × q_M}  : ∀ (v6 : Int32) (v7 : Int32) (σ : q_M) (H : Heap) (locs : List Loc) (ls : Array Slot), q_H (gM D cI cJ cR ad adK adV N) (q_A (gM D cI cJ cR ad adK adV N) s.heap.size) s σ H locs → lv_has ls 12 [(0, .ref (ad k)), (1, .int p1), (2, .long p2), (4, .long p4), (6, .int v6), (7, .int v7)] → fX9_comesBy_c58 k p1 p2 p4 v6 v7 σ = some out → W p l e { frames := 3, cells := 0, slots := 0, locals := 73 } s m args below meth c H locs 0 0 (MQ below (q_Ri (gM D cI cJ cR ad adK adV N) (q_A (gM D cI cJ cR ad adK adV N) s.heap.size) out) args s 0 0 (q_A (gM D cI cJ cR ad adK adV N) s.heap.size)) (F0 m 58 ls []) := by
  obtain ⟨hx, hb, hml, hown, hts⟩ := id C0
  intro v6 v7 σ H locs ls  hw hl h
  unfold fX9_comesBy_c58 at h
  refine lv_iload hx hb dX9_comesBy_58 (lv_at hl 4 rfl) ?_
  refine lv_iconst (v := (2 : Int32)) hx hb dX9_comesBy_60 (by decide) ?_
  refine lv_icmp_ne (tgt := 68) hx hb dX9_comesBy_61 (by decide) (fun c1 => ?_) (fun c1 => ?_)
  · replace h := q_f h c1
    refine lv_iload hx hb dX9_comesBy_68 (lv_at hl 4 rfl) ?_
    refine lv_iconst (v := (5 : Int32)) hx hb dX9_comesBy_70 (by decide) ?_
    refine lv_icmp_ne (tgt := 78) hx hb dX9_comesBy_71 (by decide) (fun c2 => ?_) (fun c2 => ?_)
    · replace h := q_f h c2
      refine lv_iconst (v := (0 : Int32)) hx hb dX9_comesBy_78 (by decide) ?_
      refine lv_istore (lv' := [(8, .int (0 : Int32)), (0, .ref (ad k)), (1, .int p1), (2, .long p2), (4, .long p4), (6, .int v6), (7, .int v7)]) hx hb dX9_comesBy_79 hl (by decide) rfl (fun ls hl => ?_)
      refine lv_lload_n hx hb dX9_comesBy_81 rfl (lv_at hl 3 rfl) ?_
      refine lv_lstore (lv' := [(9, .long p2), (8, .int (0 : Int32)), (0, .ref (ad k)), (1, .int p1), (2, .long p2), (4, .long p4), (6, .int v6), (7, .int v7)]) hx hb dX9_comesBy_82 hl (by decide) rfl (fun ls hl => ?_)
      refine lv_iconst (v := (0 : Int32)) hx hb dX9_comesBy_84 (by decide) ?_
      refine lv_istore (lv' := [(11, .int (0 : Int32)), (9, .long p2), (8, .int (0 : Int32)), (0, .ref (ad k)), (1, .int p1), (2, .long p2), (4, .long p4), (6, .int v6), (7, .int v7)]) hx hb dX9_comesBy_85 hl (by decide) rfl (fun ls hl => ?_)
      exact tX9_comesBy_c87 hk C0 hr hlk q_FU v7 (0 : Int32) p2 (0 : Int32) σ _ _ _ hw (lv_sub hl [3, 4, 6, 8, 2, 1, 0] rfl) h
    · replace h := q_t h c2
      refine lv_iconst (v := (2 : Int32)) hx hb dX9_comesBy_74 (by decide) ?_
      refine lv_goto (tgt := 79) hx hb dX9_comesBy_75 (by decide) ?_
      refine lv_istore (lv' := [(8, .int (2 : Int32)), (0, .ref (ad k)), (1, .int p1), (2, .long p2), (4, .long p4), (6, .int v6), (7, .int v7)]) hx hb dX9_comesBy_79 hl (by decide) rfl (fun ls hl => ?_)
      refine lv_lload_n hx hb dX9_comesBy_81 rfl (lv_at hl 3 rfl) ?_
      refine lv_lstore (lv' := [(9, .long p2), (8, .int (2 : Int32)), (0, .ref (ad k)), (1, .int p1), (2, .long p2), (4, .long p4), (6, .int v6), (7, .int v7)]) hx hb dX9_comesBy_82 hl (by decide) rfl (fun ls hl => ?_)
      refine lv_iconst (v := (0 : Int32)) hx hb dX9_comesBy_84 (by decide) ?_
      refine lv_istore (lv' := [(11, .int (0 : Int32)), (9, .long p2), (8, .int (2 : Int32)), (0, .ref (ad k)), (1, .int p1), (2, .long p2), (4, .long p4), (6, .int v6), (7, .int v7)]) hx hb dX9_comesBy_85 hl (by decide) rfl (fun ls hl => ?_)
      exact tX9_comesBy_c87 hk C0 hr hlk q_FU v7 (2 : Int32) p2 (0 : Int32) σ _ _ _ hw (lv_sub hl [3, 4, 6, 8, 2, 1, 0] rfl) h
  · replace h := q_t h c1
    refine lv_iconst (v := (1 : Int32)) hx hb dX9_comesBy_64 (by decide) ?_
    refine lv_goto (tgt := 79) hx hb dX9_comesBy_65 (by decide) ?_
    refine lv_istore (lv' := [(8, .int (1 : Int32)), (0, .ref (ad k)), (1, .int p1), (2, .long p2), (4, .long p4), (6, .int v6), (7, .int v7)]) hx hb dX9_comesBy_79 hl (by decide) rfl (fun ls hl => ?_)
    refine lv_lload_n hx hb dX9_comesBy_81 rfl (lv_at hl 3 rfl) ?_
    refine lv_lstore (lv' := [(9, .long p2), (8, .int (1 : Int32)), (0, .ref (ad k)), (1, .int p1), (2, .long p2), (4, .long p4), (6, .int v6), (7, .int v7)]) hx hb dX9_comesBy_82 hl (by decide) rfl (fun ls hl => ?_)
    refine lv_iconst (v := (0 : Int32)) hx hb dX9_comesBy_84 (by decide) ?_
    refine lv_istore (lv' := [(11, .int (0 : Int32)), (9, .long p2), (8, .int (1 : Int32)), (0, .ref (ad k)), (1, .int p1), (2, .long p2), (4, .long p4), (6, .int v6), (7, .int v7)]) hx hb dX9_comesBy_85 hl (by decide) rfl (fun ls hl => ?_)
    exact tX9_comesBy_c87 hk C0 hr hlk q_FU v7 (1 : Int32) p2 (0 : Int32) σ _ _ _ hw (lv_sub hl [3, 4, 6, 8, 2, 1, 0] rfl) h
set_option maxHeartbeats 4000000 in
set_option maxRecDepth 100000 in
theorem tX9_comesBy_c40 {k : Nat} {p1 : Int32} {p2 : Int64} {p4 : Int64} (hk : mB N k) (C0 : CallFix p m c cX9_comesBy 12 s args wsX9_comesBy RX9) (hr : meth.sig.returnType = (some .boolean)) (hlk : meth.locks = false) {out : Int32 × q_M}  : ∀ (v6 : Int32) (v7 : Int32) (σ : q_M) (H : Heap) (locs : List Loc) (ls : Array Slot), q_H (gM D cI cJ cR ad adK adV N) (q_A (gM D cI cJ cR ad adK adV N) s.heap.size) s σ H locs → lv_has ls 12 [(0, .ref (ad k)), (1, .int p1), (2, .long p2), (4, .long p4), (6, .int v6), (7, .int v7)] → fX9_comesBy_c40 k p1 p2 p4 v6 v7 σ = some out → W p l e { frames := 3, cells := 0, slots := 0, locals := 73 } s m args below meth c H locs 0 0 (MQ below (q_Ri (gM D cI cJ cR ad adK adV N) (q_A (gM D cI cJ cR ad adK adV N) s.heap.size) out) args s 0 0 (q_A (gM D cI cJ cR ad adK adV N) s.heap.size)) (F0 m 40 ls []) := by
  obtain ⟨hx, hb, hml, hown, hts⟩ := id C0
  intro v6 v7 σ H locs ls  hw hl h
  unfold fX9_comesBy_c40 at h
  refine lv_iload hx hb dX9_comesBy_40 (lv_at hl 4 rfl) ?_
  refine lv_iconst (v := (4 : Int32)) hx hb dX9_comesBy_42 (by decide) ?_
  refine lv_icmp_ne (tgt := 58) hx hb dX9_comesBy_43 (by decide) (fun c1 => ?_) (fun c1 => ?_)
  · replace h := q_f h c1
    exact tX9_comesBy_c58 hk C0 hr hlk v6 v7 σ _ _ _ hw (lv_sub hl [0, 1, 2, 3, 4, 5] rfl) h
  · replace h := q_t h c1
    refine lv_aload_n hx hb dX9_comesBy_46 rfl (lv_at hl 0 rfl) ?_
    refine lv_lload_n hx hb dX9_comesBy_47 rfl (lv_at hl 2 rfl) ?_
    refine lv_iload hx hb dX9_comesBy_48 (lv_at hl 5 rfl) ?_
    obtain ⟨o2, hco2, h⟩ := q_bind h
    refine q_calli hw (va_runV (As := [.long p2, .int v7]) (rest := []) C0 (kX9_isAtEnd hk hco2 _) (cwV 2 hts gX9_comesBy_X9_isAtEnd rfl rfl rfl eX9_isAtEnd ⟨(Nat.le_of_ble_eq_true rfl), (Nat.le_of_ble_eq_true rfl)⟩) ⟨q_blind, q_recv hw (mN_0 hk) (mE_0 hk) rfl, q_pre hw⟩ rfl rfl hl.1 rfl (lv_room (Nat.le_of_ble_eq_true rfl)) dX9_comesBy_50 ⟨Nat.zero_le _, Nat.zero_le _⟩) (fun H locs hw => ?_)
    refine lv_if_ne (tgt := 58) hx hb dX9_comesBy_53 (by decide) (fun c3 => ?_) (fun c3 => ?_)
    · replace h := q_f h c3
      exact tX9_comesBy_c58 hk C0 hr hlk v6 v7 o2.2 _ _ _ hw (lv_sub hl [0, 1, 2, 3, 4, 5] rfl) h
    · replace h := q_t h c3
      refine lv_iconst (v := (0 : Int32)) hx hb dX9_comesBy_56 (by decide) ?_
      exact q_zret h C0 hr rfl hlk hw dX9_comesBy_57
set_option maxHeartbeats 4000000 in
set_option maxRecDepth 100000 in
theorem kX9_comesBy {k : Nat} {p1 : Int32} {p2 : Int64} {p4 : Int64} (hk : mB N k) {σ : q_M} {out : Int32 × q_M} (h : fX9_comesBy k p1 p2 p4 σ = some out) : q_Mi l (gM D cI cJ cR ad adK adV N) yX9_comesBy wsX9_comesBy { frames := 3, cells := 0, slots := 0, locals := 73 } [.ref (ad k), .int p1, .long p2, .long p4] σ out := by
  refine q_Mi_of (cc := cX9_comesBy) (maxL := 12) (ret := (some .boolean)) (by decide) rfl (Nat.le_of_ble_eq_true rfl) ?_
  intro p e s m below meth c ls C0 hr hlk hl hw
  obtain ⟨hx, hb, hml, hown, hts⟩ := id C0
  replace hl : lv_has ls 12 [(0, .ref (ad k)), (1, .int p1), (2, .long p2), (4, .long p4)] := hl
  unfold fX9_comesBy at h
  refine lv_aload_n hx hb dX9_comesBy_0 rfl (lv_at hl 0 rfl) ?_
  refine gt_X9_5 C0 hw hk iX9_comesBy_X9 (by decide +kernel) dX9_comesBy_1 ?_
  refine lv_iload_n hx hb dX9_comesBy_4 rfl (lv_at hl 1 rfl) ?_
  obtain ⟨b1, h⟩ := q_if h
  refine q_iald (t0 := 0) C0 hw (mN_6 hk) (mE_6 hk) rfl b1 dX9_comesBy_5 ?_
  refine lv_topi (fun x2 e_x2 => ?_)
  replace h := q_let_at e_x2 h
  refine lv_istore (lv' := [(6, .int x2), (0, .ref (ad k)), (1, .int p1), (2, .long p2), (4, .long p4)]) hx hb dX9_comesBy_6 hl (by decide) rfl (fun ls hl => ?_)
  refine lv_aload_n hx hb dX9_comesBy_8 rfl (lv_at hl 1 rfl) ?_
  refine gt_X9_6 C0 hw hk iX9_comesBy_X9 (by decide +kernel) dX9_comesBy_9 ?_
  refine lv_iload_n hx hb dX9_comesBy_12 rfl (lv_at hl 2 rfl) ?_
  obtain ⟨b3, h⟩ := q_if h
  refine q_iald (t0 := 0) C0 hw (mN_7 hk) (mE_7 hk) rfl b3 dX9_comesBy_13 ?_
  refine lv_topi (fun x4 e_x4 => ?_)
  replace h := q_let_at e_x4 h
  refine lv_istore (lv' := [(7, .int x4), (6, .int x2), (0, .ref (ad k)), (1, .int p1), (2, .long p2), (4, .long p4)]) hx hb dX9_comesBy_14 hl (by decide) rfl (fun ls hl => ?_)
  refine lv_lload_n hx hb dX9_comesBy_16 rfl (lv_at hl 4 rfl) ?_
  refine lv_lconst (v := (0 : Int64)) hx hb dX9_comesBy_17 (by decide) ?_
  refine q_lcmp_ne (tgt := 24) C0 dX9_comesBy_18 dX9_comesBy_19 (by decide) (fun c5 => ?_) (fun c5 => ?_)
  · replace h := q_f h c5
    refine lv_iload hx hb dX9_comesBy_24 (lv_at hl 1 rfl) ?_
    refine lv_iconst (v := (3 : Int32)) hx hb dX9_comesBy_26 (by decide) ?_
    refine lv_icmp_ne (tgt := 40) hx hb dX9_comesBy_27 (by decide) (fun c6 => ?_) (fun c6 => ?_)
    · replace h := q_f h c6
      exact tX9_comesBy_c40 hk C0 hr hlk x2 x4 σ _ _ _ hw (lv_sub hl [2, 3, 4, 5, 1, 0] rfl) h
    · replace h := q_t h c6
      refine lv_aload_n hx hb dX9_comesBy_30 rfl (lv_at hl 2 rfl) ?_
      refine lv_lload_n hx hb dX9_comesBy_31 rfl (lv_at hl 4 rfl) ?_
      refine lv_iload hx hb dX9_comesBy_32 (lv_at hl 0 rfl) ?_
      obtain ⟨o7, hco7, h⟩ := q_bind h
      refine q_calli hw (va_runV (As := [.long p2, .int x4]) (rest := []) C0 (kX9_isInRow hk hco7 _) (cwV 2 hts gX9_comesBy_X9_isInRow rfl rfl rfl eX9_isInRow ⟨(Nat.le_of_ble_eq_true rfl), (Nat.le_of_ble_eq_true rfl)⟩) ⟨q_blind, q_recv hw (mN_0 hk) (mE_0 hk) rfl, q_pre hw⟩ rfl rfl hl.1 rfl (lv_room (Nat.le_of_ble_eq_true rfl)) dX9_comesBy_34 ⟨Nat.zero_le _, Nat.zero_le _⟩) (fun H locs hw => ?_)
      refine lv_if_eq (tgt := 56) hx hb dX9_comesBy_37 (by decide) (fun c8 => ?_) (fun c8 => ?_)
      · replace h := q_t h c8
        refine lv_iconst (v := (0 : Int32)) hx hb dX9_comesBy_56 (by decide) ?_
        exact q_zret h C0 hr rfl hlk hw dX9_comesBy_57
      · replace h := q_f h c8
        exact tX9_comesBy_c40 hk C0 hr hlk x2 x4 o7.2 _ _ _ hw (lv_sub hl [2, 3, 4, 5, 1, 0] rfl) h
  · replace h := q_t h c5
    refine lv_iconst (v := (1 : Int32)) hx hb dX9_comesBy_22 (by decide) ?_
    exact q_zret h C0 hr rfl hlk hw dX9_comesBy_23
-- X9_thatCome thatCome(IJ)I
theorem iX9_thatCome_X9 : ∀ w ∈ wsX90, w ∈ wsX9_thatCome := by decide +kernel
theorem eX9_comesBy : yX9_comesBy.cls = RX9 ∧ yX9_comesBy.cls ≠ "java/lang/invoke/MethodHandle" ∧ yX9_comesBy.cls ≠ "java/lang/invoke/VarHandle" ∧ (parseMethodDescriptor yX9_comesBy.desc).map (fun d => d.parameters.length) = some 3 := by decide +kernel
set_option maxHeartbeats 4000000 in
set_option maxRecDepth 100000 in
theorem tX9_thatCome_c6 {k : Nat} {p1 : Int32} {p2 : Int64} (hk : mB N k) (C0 : CallFix p m c cX9_thatCome 6 s args wsX9_thatCome RX9) (hr : meth.sig.returnType = (some .int)) (hlk : meth.locks = false) {out : Int32 × q_M}  : ∀ n : Nat, ∀ (v4 : Int32) (v5 : Int32) (σ : q_M) (H : Heap) (locs : List Loc) (ls : Array Slot), q_H (gM D cI cJ cR ad adK adV N) (q_A (gM D cI cJ cR ad adK adV N) s.heap.size) s σ H locs → lv_has ls 6 [(0, .ref (ad k)), (1, .int p1), (2, .long p2), (4, .int v4), (5, .int v5)] → fX9_thatCome_c6 k p1 p2 n v4 v5 σ = some out → W p l e { frames := 4, cells := 0, slots := 0, locals := 104 } s m args below meth c H locs 0 0 (MQ below (q_Ri (gM D cI cJ cR ad adK adV N) (q_A (gM D cI cJ cR ad adK adV N) s.heap.size) out) args s 0 0 (q_A (gM D cI cJ cR ad adK adV N) s.heap.size)) (F0 m 6 ls []) := by
  obtain ⟨hx, hb, hml, hown, hts⟩ := id C0
  intro n
  induction n with
  | zero =>
    intro v4 v5 σ H locs ls  hw hl h
    cases (show (none : Option (Int32 × q_M)) = some out from h)
  | succ n hrec6 =>
    intro v4 v5 σ H locs ls  hw hl h
    replace h : fX9_thatCome_c6b k p1 p2 (fX9_thatCome_c6 k p1 p2 n) v4 v5 σ = some out := h
    unfold fX9_thatCome_c6b at h
    refine lv_iload hx hb dX9_thatCome_6 (lv_at hl 4 rfl) ?_
    refine lv_aload_n hx hb dX9_thatCome_8 rfl (lv_at hl 0 rfl) ?_
    obtain ⟨o1, hco1, h⟩ := q_bind h
    refine q_calli hw (va_runV (As := []) (rest := [.int v5]) C0 (kX9_many hk hco1 _) (cwV 0 hts gX9_thatCome_X9_many rfl rfl rfl eX9_many ⟨(Nat.le_of_ble_eq_true rfl), (Nat.le_of_ble_eq_true rfl)⟩) ⟨q_blind, q_recv hw (mN_0 hk) (mE_0 hk) rfl, q_pre hw⟩ rfl rfl hl.1 rfl (lv_room (Nat.le_of_ble_eq_true rfl)) dX9_thatCome_9 ⟨Nat.zero_le _, Nat.zero_le _⟩) (fun H locs hw => ?_)
    refine lv_icmp_ge (tgt := 56) hx hb dX9_thatCome_12 (by decide) (fun c2 => ?_) (fun c2 => ?_)
    · replace h := q_t h c2
      refine lv_iload hx hb dX9_thatCome_56 (lv_at hl 3 rfl) ?_
      exact q_iret h C0 hr hlk hw dX9_thatCome_58
    · replace h := q_f h c2
      refine lv_iload hx hb dX9_thatCome_15 (lv_at hl 3 rfl) ?_
      refine lv_lload_n hx hb dX9_thatCome_17 rfl (lv_at hl 2 rfl) ?_
      refine lv_iload hx hb dX9_thatCome_18 (lv_at hl 4 rfl) ?_
      obtain ⟨o3, hco3, h⟩ := q_bind h
      refine q_calli hw (va_runS (As := [.long p2, .int v5]) (rest := [.int v4]) C0 (kX9_has hco3 _) (va_cwS 2 hts gX9_thatCome_X9_has rfl rfl rfl eX9_has ⟨(Nat.le_of_ble_eq_true rfl), (Nat.le_of_ble_eq_true rfl)⟩) ⟨q_blind, q_pre hw⟩ rfl rfl hl.1 rfl (lv_room (Nat.le_of_ble_eq_true rfl)) dX9_thatCome_20 ⟨Nat.zero_le _, Nat.zero_le _⟩) (fun H locs hw => ?_)
      refine lv_if_eq (tgt := 46) hx hb dX9_thatCome_23 (by decide) (fun c4 => ?_) (fun c4 => ?_)
      · replace h := q_t h c4
        refine lv_iconst (v := (0 : Int32)) hx hb dX9_thatCome_46 (by decide) ?_
        refine lv_iadd hx hb dX9_thatCome_47 ?_
        refine lv_istore (lv' := [(4, .int (v4 + (0 : Int32))), (0, .ref (ad k)), (1, .int p1), (2, .long p2), (5, .int v5)]) hx hb dX9_thatCome_48 hl (by decide) rfl (fun ls hl => ?_)
        refine lv_iinc (v := (v5 + (1 : Int32))) (lv' := [(5, .int (v5 + (1 : Int32))), (4, .int (v4 + (0 : Int32))), (0, .ref (ad k)), (1, .int p1), (2, .long p2)]) hx hb dX9_thatCome_50 hl (k := 4) rfl rfl (by decide) rfl (fun ls hl => ?_)
        refine lv_goto (tgt := 6) hx hb dX9_thatCome_53 (by decide) ?_
        exact hrec6 (v4 + (0 : Int32)) (v5 + (1 : Int32)) o3.2 _ _ _ hw (lv_sub hl [2, 3, 4, 1, 0] rfl) h
      · replace h := q_f h c4
        refine lv_aload_n hx hb dX9_thatCome_26 rfl (lv_at hl 0 rfl) ?_
        refine lv_iload_n hx hb dX9_thatCome_27 rfl (lv_at hl 1 rfl) ?_
        refine lv_lconst (v := (1 : Int64)) hx hb dX9_thatCome_28 (by decide) ?_
        refine lv_iload hx hb dX9_thatCome_29 (lv_at hl 4 rfl) ?_
        refine lv_lshl (v := (q_shl (1 : Int64) v5)) hx hb dX9_thatCome_31 rfl ?_
        refine lv_aload_n hx hb dX9_thatCome_32 rfl (lv_at hl 0 rfl) ?_
        refine gt_X9_12 C0 hw hk iX9_thatCome_X9 (by decide +kernel) dX9_thatCome_33 ?_
        obtain ⟨o5, hco5, h⟩ := q_bind h
        refine q_calli hw (va_runV (As := [.int p1, .long (q_shl (1 : Int64) v5), .long (o3.2.2 k 12)]) (rest := [.int v4]) C0 (kX9_comesBy hk hco5 _) (cwV 3 hts gX9_thatCome_X9_comesBy rfl rfl rfl eX9_comesBy ⟨(Nat.le_of_ble_eq_true rfl), (Nat.le_of_ble_eq_true rfl)⟩) ⟨q_blind, q_recv hw (mN_0 hk) (mE_0 hk) rfl, q_pre hw⟩ rfl rfl hl.1 rfl (lv_room (Nat.le_of_ble_eq_true rfl)) dX9_thatCome_36 ⟨Nat.zero_le _, Nat.zero_le _⟩) (fun H locs hw => ?_)
        refine lv_if_eq (tgt := 46) hx hb dX9_thatCome_39 (by decide) (fun c6 => ?_) (fun c6 => ?_)
        · replace h := q_t h c6
          refine lv_iconst (v := (0 : Int32)) hx hb dX9_thatCome_46 (by decide) ?_
          refine lv_iadd hx hb dX9_thatCome_47 ?_
          refine lv_istore (lv' := [(4, .int (v4 + (0 : Int32))), (0, .ref (ad k)), (1, .int p1), (2, .long p2), (5, .int v5)]) hx hb dX9_thatCome_48 hl (by decide) rfl (fun ls hl => ?_)
          refine lv_iinc (v := (v5 + (1 : Int32))) (lv' := [(5, .int (v5 + (1 : Int32))), (4, .int (v4 + (0 : Int32))), (0, .ref (ad k)), (1, .int p1), (2, .long p2)]) hx hb dX9_thatCome_50 hl (k := 4) rfl rfl (by decide) rfl (fun ls hl => ?_)
          refine lv_goto (tgt := 6) hx hb dX9_thatCome_53 (by decide) ?_
          exact hrec6 (v4 + (0 : Int32)) (v5 + (1 : Int32)) o5.2 _ _ _ hw (lv_sub hl [2, 3, 4, 1, 0] rfl) h
        · replace h := q_f h c6
          refine lv_iconst (v := (1 : Int32)) hx hb dX9_thatCome_42 (by decide) ?_
          refine lv_goto (tgt := 47) hx hb dX9_thatCome_43 (by decide) ?_
          refine lv_iadd hx hb dX9_thatCome_47 ?_
          refine lv_istore (lv' := [(4, .int (v4 + (1 : Int32))), (0, .ref (ad k)), (1, .int p1), (2, .long p2), (5, .int v5)]) hx hb dX9_thatCome_48 hl (by decide) rfl (fun ls hl => ?_)
          refine lv_iinc (v := (v5 + (1 : Int32))) (lv' := [(5, .int (v5 + (1 : Int32))), (4, .int (v4 + (1 : Int32))), (0, .ref (ad k)), (1, .int p1), (2, .long p2)]) hx hb dX9_thatCome_50 hl (k := 4) rfl rfl (by decide) rfl (fun ls hl => ?_)
          refine lv_goto (tgt := 6) hx hb dX9_thatCome_53 (by decide) ?_
          exact hrec6 (v4 + (1 : Int32)) (v5 + (1 : Int32)) o5.2 _ _ _ hw (lv_sub hl [2, 3, 4, 1, 0] rfl) h
set_option maxHeartbeats 4000000 in
set_option maxRecDepth 100000 in
theorem kX9_thatCome {k : Nat} {p1 : Int32} {p2 : Int64} (hk : mB N k) {σ : q_M} {out : Int32 × q_M} (h : fX9_thatCome k p1 p2 σ = some out) : q_Mi l (gM D cI cJ cR ad adK adV N) yX9_thatCome wsX9_thatCome { frames := 4, cells := 0, slots := 0, locals := 104 } [.ref (ad k), .int p1, .long p2] σ out := by
  refine q_Mi_of (cc := cX9_thatCome) (maxL := 6) (ret := (some .int)) (by decide) rfl (Nat.le_of_ble_eq_true rfl) ?_
  intro p e s m below meth c ls C0 hr hlk hl hw
  obtain ⟨hx, hb, hml, hown, hts⟩ := id C0
  replace hl : lv_has ls 6 [(0, .ref (ad k)), (1, .int p1), (2, .long p2)] := hl
  unfold fX9_thatCome at h
  refine lv_iconst (v := (0 : Int32)) hx hb dX9_thatCome_0 (by decide) ?_
  refine lv_istore (lv' := [(4, .int (0 : Int32)), (0, .ref (ad k)), (1, .int p1), (2, .long p2)]) hx hb dX9_thatCome_1 hl (by decide) rfl (fun ls hl => ?_)
  refine lv_iconst (v := (0 : Int32)) hx hb dX9_thatCome_3 (by decide) ?_
  refine lv_istore (lv' := [(5, .int (0 : Int32)), (4, .int (0 : Int32)), (0, .ref (ad k)), (1, .int p1), (2, .long p2)]) hx hb dX9_thatCome_4 hl (by decide) rfl (fun ls hl => ?_)
  exact tX9_thatCome_c6 hk C0 hr hlk q_FU (0 : Int32) (0 : Int32) σ _ _ _ hw (lv_sub hl [2, 3, 4, 1, 0] rfl) h
-- X9_says says(II)I
theorem iX9_says_X9 : ∀ w ∈ wsX90, w ∈ wsX9_says := by decide +kernel
theorem eX9_empty : yX9_empty.cls = RX9 ∧ yX9_empty.cls ≠ "java/lang/invoke/MethodHandle" ∧ yX9_empty.cls ≠ "java/lang/invoke/VarHandle" ∧ (parseMethodDescriptor yX9_empty.desc).map (fun d => d.parameters.length) = some 0 := by decide +kernel
theorem eX9_isUnder : yX9_isUnder.cls ≠ "java/lang/invoke/MethodHandle" ∧ yX9_isUnder.cls ≠ "java/lang/invoke/VarHandle" ∧ (parseMethodDescriptor yX9_isUnder.desc).map (fun d => d.parameters.length) = some 2 := by decide +kernel
theorem eX9_thatCome : yX9_thatCome.cls = RX9 ∧ yX9_thatCome.cls ≠ "java/lang/invoke/MethodHandle" ∧ yX9_thatCome.cls ≠ "java/lang/invoke/VarHandle" ∧ (parseMethodDescriptor yX9_thatCome.desc).map (fun d => d.parameters.length) = some 2 := by decide +kernel
set_option maxHeartbeats 4000000 in
set_option maxRecDepth 100000 in
theorem tX9_says_c71 {k : Nat} {p1 : Int32} {p2 : Int32} (hk : mB N k) (C0 : CallFix p m c cX9_says 3 s args wsX9_says RX9) (hr : meth.sig.returnType = (some .int)) (hlk : meth.locks = false) {out : Int32 × q_M}  : ∀  (σ : q_M) (H : Heap) (locs : List Loc) (ls : Array Slot), q_H (gM D cI cJ cR ad adK adV N) (q_A (gM D cI cJ cR ad adK adV N) s.heap.size) s σ H locs → lv_has ls 3 [(0, .ref (ad k)), (1, .int p1), (2, .int p2)] → fX9_says_c71 k p1 p2  σ = some out → W p l e { frames := 5, cells := 0, slots := 0, locals := 129 } s m args below meth c H locs 0 0 (MQ below (q_Ri (gM D cI cJ cR ad adK adV N) (q_A (gM D cI cJ cR ad adK adV N) s.heap.size) out) args s 0 0 (q_A (gM D cI cJ cR ad adK adV N) s.heap.size)) (F0 m 71 ls []) := by
  obtain ⟨hx, hb, hml, hown, hts⟩ := id C0
  intro  σ H locs ls  hw hl h
  unfold fX9_says_c71 at h
  refine lv_aload_n hx hb dX9_says_71 rfl (lv_at hl 0 rfl) ?_
  refine gt_X9_0 C0 hw hk iX9_says_X9 (by decide +kernel) dX9_says_72 ?_
  refine lv_iload_n hx hb dX9_says_75 rfl (lv_at hl 1 rfl) ?_
  obtain ⟨b1, h⟩ := q_if h
  refine q_iald (t0 := 0) C0 hw (mN_1 hk) (mE_1 hk) rfl b1 dX9_says_76 ?_
  refine lv_if_ne (tgt := 87) hx hb dX9_says_77 (by decide) (fun c2 => ?_) (fun c2 => ?_)
  · replace h := q_f h c2
    refine lv_iload_n hx hb dX9_says_87 rfl (lv_at hl 2 rfl) ?_
    refine lv_if_ne (tgt := 98) hx hb dX9_says_88 (by decide) (fun c3 => ?_) (fun c3 => ?_)
    · replace h := q_f h c3
      refine lv_iload_n hx hb dX9_says_98 rfl (lv_at hl 2 rfl) ?_
      refine lv_iconst (v := (2 : Int32)) hx hb dX9_says_99 (by decide) ?_
      refine lv_icmp_eq (tgt := 108) hx hb dX9_says_100 (by decide) (fun c4 => ?_) (fun c4 => ?_)
      · replace h := q_t h c4
        refine lv_aload_n hx hb dX9_says_108 rfl (lv_at hl 0 rfl) ?_
        refine gt_X9_7 C0 hw hk iX9_says_X9 (by decide +kernel) dX9_says_109 ?_
        refine lv_iload_n hx hb dX9_says_112 rfl (lv_at hl 1 rfl) ?_
        obtain ⟨b5, h⟩ := q_if h
        refine q_iald (t0 := 0) C0 hw (mN_8 hk) (mE_8 hk) rfl b5 dX9_says_113 ?_
        refine lv_goto (tgt := 126) hx hb dX9_says_114 (by decide) ?_
        exact q_iret h C0 hr hlk hw dX9_says_126
      · replace h := q_f h c4
        refine lv_iload_n hx hb dX9_says_103 rfl (lv_at hl 2 rfl) ?_
        refine lv_iconst (v := (5 : Int32)) hx hb dX9_says_104 (by decide) ?_
        refine lv_icmp_ne (tgt := 117) hx hb dX9_says_105 (by decide) (fun c6 => ?_) (fun c6 => ?_)
        · replace h := q_f h c6
          refine lv_aload_n hx hb dX9_says_117 rfl (lv_at hl 0 rfl) ?_
          refine lv_iload_n hx hb dX9_says_118 rfl (lv_at hl 1 rfl) ?_
          refine lv_aload_n hx hb dX9_says_119 rfl (lv_at hl 0 rfl) ?_
          obtain ⟨o7, hco7, h⟩ := q_bind h
          refine q_calll hw (va_runV (As := []) (rest := [.int p1, .ref (ad k)]) C0 (kX9_empty hk hco7 _) (cwV 0 hts gX9_says_X9_empty rfl rfl rfl eX9_empty ⟨(Nat.le_of_ble_eq_true rfl), (Nat.le_of_ble_eq_true rfl)⟩) ⟨q_blind, q_recv hw (mN_0 hk) (mE_0 hk) rfl, q_pre hw⟩ rfl rfl hl.1 rfl (lv_room (Nat.le_of_ble_eq_true rfl)) dX9_says_120 ⟨Nat.zero_le _, Nat.zero_le _⟩) (fun H locs hw => ?_)
          obtain ⟨o8, hco8, h⟩ := q_bind h
          refine q_calli hw (va_runV (As := [.int p1, .long o7.1]) (rest := []) C0 (kX9_thatCome hk hco8 _) (cwV 2 hts gX9_says_X9_thatCome rfl rfl rfl eX9_thatCome ⟨(Nat.le_of_ble_eq_true rfl), (Nat.le_of_ble_eq_true rfl)⟩) ⟨q_blind, q_recv hw (mN_0 hk) (mE_0 hk) rfl, q_pre hw⟩ rfl rfl hl.1 rfl (lv_room (Nat.le_of_ble_eq_true rfl)) dX9_says_123 ⟨Nat.zero_le _, Nat.zero_le _⟩) (fun H locs hw => ?_)
          exact q_iret h C0 hr hlk hw dX9_says_126
        · replace h := q_t h c6
          refine lv_aload_n hx hb dX9_says_108 rfl (lv_at hl 0 rfl) ?_
          refine gt_X9_7 C0 hw hk iX9_says_X9 (by decide +kernel) dX9_says_109 ?_
          refine lv_iload_n hx hb dX9_says_112 rfl (lv_at hl 1 rfl) ?_
          obtain ⟨b9, h⟩ := q_if h
          refine q_iald (t0 := 0) C0 hw (mN_8 hk) (mE_8 hk) rfl b9 dX9_says_113 ?_
          refine lv_goto (tgt := 126) hx hb dX9_says_114 (by decide) ?_
          exact q_iret h C0 hr hlk hw dX9_says_126
    · replace h := q_t h c3
      refine lv_aload_n hx hb dX9_says_91 rfl (lv_at hl 0 rfl) ?_
      refine gt_X9_6 C0 hw hk iX9_says_X9 (by decide +kernel) dX9_says_92 ?_
      refine lv_iload_n hx hb dX9_says_95 rfl (lv_at hl 1 rfl) ?_
      obtain ⟨b10, h⟩ := q_if h
      refine q_iald (t0 := 0) C0 hw (mN_7 hk) (mE_7 hk) rfl b10 dX9_says_96 ?_
      exact q_iret h C0 hr hlk hw dX9_says_97
  · replace h := q_t h c2
    refine lv_aload_n hx hb dX9_says_80 rfl (lv_at hl 0 rfl) ?_
    refine lv_bipush (v := (-4 : Int32)) hx hb dX9_says_81 (by decide) ?_
    obtain ⟨o11, hco11, h⟩ := q_bind h
    refine q_calli hw (va_runV (As := [.int (-4 : Int32)]) (rest := []) C0 (kX9_refuse hk hco11 _) (cwV 1 hts gX9_says_X9_refuse rfl rfl rfl eX9_refuse ⟨(Nat.le_of_ble_eq_true rfl), (Nat.le_of_ble_eq_true rfl)⟩) ⟨q_blind, q_recv hw (mN_0 hk) (mE_0 hk) rfl, q_pre hw⟩ rfl rfl hl.1 rfl (lv_room (Nat.le_of_ble_eq_true rfl)) dX9_says_83 ⟨Nat.zero_le _, Nat.zero_le _⟩) (fun H locs hw => ?_)
    exact q_iret h C0 hr hlk hw dX9_says_86
set_option maxHeartbeats 4000000 in
set_option maxRecDepth 100000 in
theorem kX9_says {k : Nat} {p1 : Int32} {p2 : Int32} (hk : mB N k) {σ : q_M} {out : Int32 × q_M} (h : fX9_says k p1 p2 σ = some out) : q_Mi l (gM D cI cJ cR ad adK adV N) yX9_says wsX9_says { frames := 5, cells := 0, slots := 0, locals := 129 } [.ref (ad k), .int p1, .int p2] σ out := by
  refine q_Mi_of (cc := cX9_says) (maxL := 3) (ret := (some .int)) (by decide) rfl (Nat.le_of_ble_eq_true rfl) ?_
  intro p e s m below meth c ls C0 hr hlk hl hw
  obtain ⟨hx, hb, hml, hown, hts⟩ := id C0
  replace hl : lv_has ls 3 [(0, .ref (ad k)), (1, .int p1), (2, .int p2)] := hl
  unfold fX9_says at h
  refine lv_iload_n hx hb dX9_says_0 rfl (lv_at hl 1 rfl) ?_
  refine lv_i2l hx hb dX9_says_1 rfl ?_
  refine lv_lconst (v := (0 : Int64)) hx hb dX9_says_2 (by decide) ?_
  refine lv_ldc2 (v := (7 : Int64)) hx hb hown (hts (.constantLong RX9 118 (7)) (by decide +kernel)) dX9_says_3 ?_
  obtain ⟨o1, hco1, h⟩ := q_bind h
  refine q_calli hw (va_runS (As := [.long p1.toInt64, .long (0 : Int64), .long (7 : Int64)]) (rest := []) C0 (kX9_in hco1 _) (va_cwS 3 hts gX9_says_X9_in rfl rfl rfl eX9_in ⟨(Nat.le_of_ble_eq_true rfl), (Nat.le_of_ble_eq_true rfl)⟩) ⟨q_blind, q_pre hw⟩ rfl rfl hl.1 rfl (lv_room (Nat.le_of_ble_eq_true rfl)) dX9_says_6 ⟨Nat.zero_le _, Nat.zero_le _⟩) (fun H locs hw => ?_)
  refine lv_if_eq (tgt := 24) hx hb dX9_says_9 (by decide) (fun c2 => ?_) (fun c2 => ?_)
  · replace h := q_t h c2
    refine lv_aload_n hx hb dX9_says_24 rfl (lv_at hl 0 rfl) ?_
    refine lv_bipush (v := (-2 : Int32)) hx hb dX9_says_25 (by decide) ?_
    obtain ⟨o3, hco3, h⟩ := q_bind h
    refine q_calli hw (va_runV (As := [.int (-2 : Int32)]) (rest := []) C0 (kX9_refuse hk hco3 _) (cwV 1 hts gX9_says_X9_refuse rfl rfl rfl eX9_refuse ⟨(Nat.le_of_ble_eq_true rfl), (Nat.le_of_ble_eq_true rfl)⟩) ⟨q_blind, q_recv hw (mN_0 hk) (mE_0 hk) rfl, q_pre hw⟩ rfl rfl hl.1 rfl (lv_room (Nat.le_of_ble_eq_true rfl)) dX9_says_27 ⟨Nat.zero_le _, Nat.zero_le _⟩) (fun H locs hw => ?_)
    exact q_iret h C0 hr hlk hw dX9_says_30
  · replace h := q_f h c2
    refine lv_iload_n hx hb dX9_says_12 rfl (lv_at hl 2 rfl) ?_
    refine lv_i2l hx hb dX9_says_13 rfl ?_
    refine lv_lconst (v := (0 : Int64)) hx hb dX9_says_14 (by decide) ?_
    refine lv_ldc2 (v := (5 : Int64)) hx hb hown (hts (.constantLong RX9 135 (5)) (by decide +kernel)) dX9_says_15 ?_
    obtain ⟨o4, hco4, h⟩ := q_bind h
    refine q_calli hw (va_runS (As := [.long p2.toInt64, .long (0 : Int64), .long (5 : Int64)]) (rest := []) C0 (kX9_in hco4 _) (va_cwS 3 hts gX9_says_X9_in rfl rfl rfl eX9_in ⟨(Nat.le_of_ble_eq_true rfl), (Nat.le_of_ble_eq_true rfl)⟩) ⟨q_blind, q_pre hw⟩ rfl rfl hl.1 rfl (lv_room (Nat.le_of_ble_eq_true rfl)) dX9_says_18 ⟨Nat.zero_le _, Nat.zero_le _⟩) (fun H locs hw => ?_)
    refine lv_if_ne (tgt := 31) hx hb dX9_says_21 (by decide) (fun c5 => ?_) (fun c5 => ?_)
    · replace h := q_f h c5
      refine lv_aload_n hx hb dX9_says_31 rfl (lv_at hl 0 rfl) ?_
      refine gt_X9_0 C0 hw hk iX9_says_X9 (by decide +kernel) dX9_says_32 ?_
      refine lv_iload_n hx hb dX9_says_35 rfl (lv_at hl 1 rfl) ?_
      obtain ⟨b6, h⟩ := q_if h
      refine q_iald (t0 := 0) C0 hw (mN_1 hk) (mE_1 hk) rfl b6 dX9_says_36 ?_
      refine lv_iconst (v := (1 : Int32)) hx hb dX9_says_37 (by decide) ?_
      refine lv_icmp_eq (tgt := 64) hx hb dX9_says_38 (by decide) (fun c7 => ?_) (fun c7 => ?_)
      · replace h := q_t h c7
        refine lv_aload_n hx hb dX9_says_64 rfl (lv_at hl 0 rfl) ?_
        refine lv_bipush (v := (-3 : Int32)) hx hb dX9_says_65 (by decide) ?_
        obtain ⟨o8, hco8, h⟩ := q_bind h
        refine q_calli hw (va_runV (As := [.int (-3 : Int32)]) (rest := []) C0 (kX9_refuse hk hco8 _) (cwV 1 hts gX9_says_X9_refuse rfl rfl rfl eX9_refuse ⟨(Nat.le_of_ble_eq_true rfl), (Nat.le_of_ble_eq_true rfl)⟩) ⟨q_blind, q_recv hw (mN_0 hk) (mE_0 hk) rfl, q_pre hw⟩ rfl rfl hl.1 rfl (lv_room (Nat.le_of_ble_eq_true rfl)) dX9_says_67 ⟨Nat.zero_le _, Nat.zero_le _⟩) (fun H locs hw => ?_)
        exact q_iret h C0 hr hlk hw dX9_says_70
      · replace h := q_f h c7
        refine lv_aload_n hx hb dX9_says_41 rfl (lv_at hl 0 rfl) ?_
        refine gt_X9_0 C0 hw hk iX9_says_X9 (by decide +kernel) dX9_says_42 ?_
        refine lv_iload_n hx hb dX9_says_45 rfl (lv_at hl 1 rfl) ?_
        obtain ⟨b9, h⟩ := q_if h
        refine q_iald (t0 := 0) C0 hw (mN_1 hk) (mE_1 hk) rfl b9 dX9_says_46 ?_
        refine lv_iconst (v := (2 : Int32)) hx hb dX9_says_47 (by decide) ?_
        refine lv_icmp_ne (tgt := 71) hx hb dX9_says_48 (by decide) (fun c10 => ?_) (fun c10 => ?_)
        · replace h := q_f h c10
          exact tX9_says_c71 hk C0 hr hlk o4.2 _ _ _ hw (lv_sub hl [0, 1, 2] rfl) h
        · replace h := q_t h c10
          refine lv_aload_n hx hb dX9_says_51 rfl (lv_at hl 0 rfl) ?_
          refine gt_X9_5 C0 hw hk iX9_says_X9 (by decide +kernel) dX9_says_52 ?_
          refine lv_iload_n hx hb dX9_says_55 rfl (lv_at hl 1 rfl) ?_
          obtain ⟨b11, h⟩ := q_if h
          refine q_iald (t0 := 0) C0 hw (mN_6 hk) (mE_6 hk) rfl b11 dX9_says_56 ?_
          refine lv_iload_n hx hb dX9_says_57 rfl (lv_at hl 2 rfl) ?_
          obtain ⟨o12, hco12, h⟩ := q_bind h
          refine q_calli hw (va_runS (As := [.int (o4.2.1 (k + 6) p1.toNatClampNeg), .int p2]) (rest := []) C0 (kX9_isUnder hco12 _) (va_cwS 2 hts gX9_says_X9_isUnder rfl rfl rfl eX9_isUnder ⟨(Nat.le_of_ble_eq_true rfl), (Nat.le_of_ble_eq_true rfl)⟩) ⟨q_blind, q_pre hw⟩ rfl rfl hl.1 rfl (lv_room (Nat.le_of_ble_eq_true rfl)) dX9_says_58 ⟨Nat.zero_le _, Nat.zero_le _⟩) (fun H locs hw => ?_)
          refine lv_if_ne (tgt := 71) hx hb dX9_says_61 (by decide) (fun c13 => ?_) (fun c13 => ?_)
          · replace h := q_f h c13
            exact tX9_says_c71 hk C0 hr hlk o12.2 _ _ _ hw (lv_sub hl [0, 1, 2] rfl) h
          · replace h := q_t h c13
            refine lv_aload_n hx hb dX9_says_64 rfl (lv_at hl 0 rfl) ?_
            refine lv_bipush (v := (-3 : Int32)) hx hb dX9_says_65 (by decide) ?_
            obtain ⟨o14, hco14, h⟩ := q_bind h
            refine q_calli hw (va_runV (As := [.int (-3 : Int32)]) (rest := []) C0 (kX9_refuse hk hco14 _) (cwV 1 hts gX9_says_X9_refuse rfl rfl rfl eX9_refuse ⟨(Nat.le_of_ble_eq_true rfl), (Nat.le_of_ble_eq_true rfl)⟩) ⟨q_blind, q_recv hw (mN_0 hk) (mE_0 hk) rfl, q_pre hw⟩ rfl rfl hl.1 rfl (lv_room (Nat.le_of_ble_eq_true rfl)) dX9_says_67 ⟨Nat.zero_le _, Nat.zero_le _⟩) (fun H locs hw => ?_)
            exact q_iret h C0 hr hlk hw dX9_says_70
    · replace h := q_t h c5
      refine lv_aload_n hx hb dX9_says_24 rfl (lv_at hl 0 rfl) ?_
      refine lv_bipush (v := (-2 : Int32)) hx hb dX9_says_25 (by decide) ?_
      obtain ⟨o15, hco15, h⟩ := q_bind h
      refine q_calli hw (va_runV (As := [.int (-2 : Int32)]) (rest := []) C0 (kX9_refuse hk hco15 _) (cwV 1 hts gX9_says_X9_refuse rfl rfl rfl eX9_refuse ⟨(Nat.le_of_ble_eq_true rfl), (Nat.le_of_ble_eq_true rfl)⟩) ⟨q_blind, q_recv hw (mN_0 hk) (mE_0 hk) rfl, q_pre hw⟩ rfl rfl hl.1 rfl (lv_room (Nat.le_of_ble_eq_true rfl)) dX9_says_27 ⟨Nat.zero_le _, Nat.zero_le _⟩) (fun H locs hw => ?_)
      exact q_iret h C0 hr hlk hw dX9_says_30
-- X9_newSize newSize(I)V
theorem iX9_newSize_X9 : ∀ w ∈ wsX90, w ∈ wsX9_newSize := by decide +kernel
theorem eX9_showOnes : yX9_showOnes.cls = RX9 ∧ yX9_showOnes.cls ≠ "java/lang/invoke/MethodHandle" ∧ yX9_showOnes.cls ≠ "java/lang/invoke/VarHandle" ∧ (parseMethodDescriptor yX9_showOnes.desc).map (fun d => d.parameters.length) = some 0 := by decide +kernel
set_option maxHeartbeats 4000000 in
set_option maxRecDepth 100000 in
theorem kX9_newSize {k : Nat} {p1 : Int32} (hk : mB N k) {σ : q_M} {out : q_M} (h : fX9_newSize k p1 σ = some out) : q_Mv l (gM D cI cJ cR ad adK adV N) yX9_newSize wsX9_newSize { frames := 1, cells := 0, slots := 0, locals := 21 } [.ref (ad k), .int p1] σ out := by
  refine q_Mv_of (cc := cX9_newSize) (maxL := 2) (ret := none) (by decide) rfl (Nat.le_of_ble_eq_true rfl) ?_
  intro p e s m below meth c ls C0 hr hlk hl hw
  obtain ⟨hx, hb, hml, hown, hts⟩ := id C0
  replace hl : lv_has ls 2 [(0, .ref (ad k)), (1, .int p1)] := hl
  unfold fX9_newSize at h
  refine lv_aload_n hx hb dX9_newSize_0 rfl (lv_at hl 0 rfl) ?_
  refine lv_iload_n hx hb dX9_newSize_1 rfl (lv_at hl 1 rfl) ?_
  refine pt_X9_11 C0 hw hk iX9_newSize_X9 (by decide +kernel) dX9_newSize_2 (fun σ1 H locs e_σ1 hw => ?_)
  replace h := q_let_at e_σ1 h
  refine lv_aload_n hx hb dX9_newSize_5 rfl (lv_at hl 0 rfl) ?_
  refine lv_lconst (v := (0 : Int64)) hx hb dX9_newSize_6 (by decide) ?_
  refine pt_X9_12 C0 hw hk iX9_newSize_X9 (by decide +kernel) dX9_newSize_7 (fun σ2 H locs e_σ2 hw => ?_)
  replace h := q_let_at e_σ2 h
  refine lv_aload_n hx hb dX9_newSize_10 rfl (lv_at hl 0 rfl) ?_
  refine lv_iconst (v := (0 : Int32)) hx hb dX9_newSize_11 (by decide) ?_
  refine pt_X9_13 C0 hw hk iX9_newSize_X9 (by decide +kernel) dX9_newSize_12 (fun σ3 H locs e_σ3 hw => ?_)
  replace h := q_let_at e_σ3 h
  refine lv_aload_n hx hb dX9_newSize_15 rfl (lv_at hl 0 rfl) ?_
  refine lv_iconst (v := (0 : Int32)) hx hb dX9_newSize_16 (by decide) ?_
  refine pt_X9_15 C0 hw hk iX9_newSize_X9 (by decide +kernel) dX9_newSize_17 (fun σ4 H locs e_σ4 hw => ?_)
  replace h := q_let_at e_σ4 h
  refine lv_aload_n hx hb dX9_newSize_20 rfl (lv_at hl 0 rfl) ?_
  obtain ⟨o5, hco5, h⟩ := q_bind h
  refine q_callv hw (va_runV (As := []) (rest := []) C0 (kX9_showOnes hk hco5 _) (cwV 0 hts gX9_newSize_X9_showOnes rfl rfl rfl eX9_showOnes ⟨(Nat.le_of_ble_eq_true rfl), (Nat.le_of_ble_eq_true rfl)⟩) ⟨q_blind, q_recv hw (mN_0 hk) (mE_0 hk) rfl, q_pre hw⟩ rfl rfl hl.1 rfl (lv_room (Nat.le_of_ble_eq_true rfl)) dX9_newSize_21 ⟨Nat.zero_le _, Nat.zero_le _⟩) (fun H locs hw => ?_)
  exact q_vret h C0 hr hlk hw dX9_newSize_24
-- X9_size size(I)I
theorem iX9_size_X9 : ∀ w ∈ wsX90, w ∈ wsX9_size := by decide +kernel
theorem eX9_newSize : yX9_newSize.cls = RX9 ∧ yX9_newSize.cls ≠ "java/lang/invoke/MethodHandle" ∧ yX9_newSize.cls ≠ "java/lang/invoke/VarHandle" ∧ (parseMethodDescriptor yX9_newSize.desc).map (fun d => d.parameters.length) = some 1 := by decide +kernel
set_option maxHeartbeats 4000000 in
set_option maxRecDepth 100000 in
theorem kX9_size {k : Nat} {p1 : Int32} (hk : mB N k) {σ : q_M} {out : Int32 × q_M} (h : fX9_size k p1 σ = some out) : q_Mi l (gM D cI cJ cR ad adK adV N) yX9_size wsX9_size { frames := 2, cells := 0, slots := 0, locals := 42 } [.ref (ad k), .int p1] σ out := by
  refine q_Mi_of (cc := cX9_size) (maxL := 3) (ret := (some .int)) (by decide) rfl (Nat.le_of_ble_eq_true rfl) ?_
  intro p e s m below meth c ls C0 hr hlk hl hw
  obtain ⟨hx, hb, hml, hown, hts⟩ := id C0
  replace hl : lv_has ls 3 [(0, .ref (ad k)), (1, .int p1)] := hl
  unfold fX9_size at h
  refine lv_iload_n hx hb dX9_size_0 rfl (lv_at hl 1 rfl) ?_
  refine lv_i2l hx hb dX9_size_1 rfl ?_
  refine lv_ldc2 (v := (2 : Int64)) hx hb hown (hts (.constantLong RX9 152 (2)) (by decide +kernel)) dX9_size_2 ?_
  refine lv_ldc2 (v := (4 : Int64)) hx hb hown (hts (.constantLong RX9 120 (4)) (by decide +kernel)) dX9_size_5 ?_
  obtain ⟨o1, hco1, h⟩ := q_bind h
  refine q_calli hw (va_runS (As := [.long p1.toInt64, .long (2 : Int64), .long (4 : Int64)]) (rest := []) C0 (kX9_in hco1 _) (va_cwS 3 hts gX9_size_X9_in rfl rfl rfl eX9_in ⟨(Nat.le_of_ble_eq_true rfl), (Nat.le_of_ble_eq_true rfl)⟩) ⟨q_blind, q_pre hw⟩ rfl rfl hl.1 rfl (lv_room (Nat.le_of_ble_eq_true rfl)) dX9_size_8 ⟨Nat.zero_le _, Nat.zero_le _⟩) (fun H locs hw => ?_)
  refine lv_if_ne (tgt := 21) hx hb dX9_size_11 (by decide) (fun c2 => ?_) (fun c2 => ?_)
  · replace h := q_f h c2
    refine lv_aload_n hx hb dX9_size_21 rfl (lv_at hl 0 rfl) ?_
    refine gt_X9_11 C0 hw hk iX9_size_X9 (by decide +kernel) dX9_size_22 ?_
    refine lv_istore_n (lv' := [(2, .int (o1.2.1 k 11)), (0, .ref (ad k)), (1, .int p1)]) hx hb dX9_size_25 rfl hl (by decide) rfl (fun ls hl => ?_)
    refine lv_aload_n hx hb dX9_size_26 rfl (lv_at hl 1 rfl) ?_
    refine lv_iload_n hx hb dX9_size_27 rfl (lv_at hl 2 rfl) ?_
    obtain ⟨o3, hco3, h⟩ := q_bind h
    refine q_callv hw (va_runV (As := [.int p1]) (rest := []) C0 (kX9_newSize hk hco3 _) (cwV 1 hts gX9_size_X9_newSize rfl rfl rfl eX9_newSize ⟨(Nat.le_of_ble_eq_true rfl), (Nat.le_of_ble_eq_true rfl)⟩) ⟨q_blind, q_recv hw (mN_0 hk) (mE_0 hk) rfl, q_pre hw⟩ rfl rfl hl.1 rfl (lv_room (Nat.le_of_ble_eq_true rfl)) dX9_size_28 ⟨Nat.zero_le _, Nat.zero_le _⟩) (fun H locs hw => ?_)
    refine lv_iload_n hx hb dX9_size_31 rfl (lv_at hl 0 rfl) ?_
    exact q_iret h C0 hr hlk hw dX9_size_32
  · replace h := q_t h c2
    refine lv_aload_n hx hb dX9_size_14 rfl (lv_at hl 0 rfl) ?_
    refine lv_bipush (v := (-2 : Int32)) hx hb dX9_size_15 (by decide) ?_
    obtain ⟨o4, hco4, h⟩ := q_bind h
    refine q_calli hw (va_runV (As := [.int (-2 : Int32)]) (rest := []) C0 (kX9_refuse hk hco4 _) (cwV 1 hts gX9_size_X9_refuse rfl rfl rfl eX9_refuse ⟨(Nat.le_of_ble_eq_true rfl), (Nat.le_of_ble_eq_true rfl)⟩) ⟨q_blind, q_recv hw (mN_0 hk) (mE_0 hk) rfl, q_pre hw⟩ rfl rfl hl.1 rfl (lv_room (Nat.le_of_ble_eq_true rfl)) dX9_size_17 ⟨Nat.zero_le _, Nat.zero_le _⟩) (fun H locs hw => ?_)
    exact q_iret h C0 hr hlk hw dX9_size_20
-- X9_solid solid(JZ)I
theorem iX9_solid_X9 : ∀ w ∈ wsX90, w ∈ wsX9_solid := by decide +kernel
theorem eX9_bits : yX9_bits.cls ≠ "java/lang/invoke/MethodHandle" ∧ yX9_bits.cls ≠ "java/lang/invoke/VarHandle" ∧ (parseMethodDescriptor yX9_bits.desc).map (fun d => d.parameters.length) = some 1 := by decide +kernel
set_option maxHeartbeats 4000000 in
set_option maxRecDepth 100000 in
theorem kX9_solid {k : Nat} {p1 : Int64} {p3 : Int32} (hk : mB N k) {σ : q_M} {out : Int32 × q_M} (h : fX9_solid k p1 p3 σ = some out) : q_Mi l (gM D cI cJ cR ad adK adV N) yX9_solid wsX9_solid { frames := 2, cells := 0, slots := 0, locals := 45 } [.ref (ad k), .long p1, .int p3] σ out := by
  refine q_Mi_of (cc := cX9_solid) (maxL := 6) (ret := (some .int)) (by decide) rfl (Nat.le_of_ble_eq_true rfl) ?_
  intro p e s m below meth c ls C0 hr hlk hl hw
  obtain ⟨hx, hb, hml, hown, hts⟩ := id C0
  replace hl : lv_has ls 6 [(0, .ref (ad k)), (1, .long p1), (3, .int p3)] := hl
  unfold fX9_solid at h
  refine lv_aload_n hx hb dX9_solid_0 rfl (lv_at hl 0 rfl) ?_
  refine gt_X9_12 C0 hw hk iX9_solid_X9 (by decide +kernel) dX9_solid_1 ?_
  refine lv_lstore (lv' := [(4, .long (σ.2 k 12)), (0, .ref (ad k)), (1, .long p1), (3, .int p3)]) hx hb dX9_solid_4 hl (by decide) rfl (fun ls hl => ?_)
  refine lv_aload_n hx hb dX9_solid_6 rfl (lv_at hl 1 rfl) ?_
  refine lv_iload_n hx hb dX9_solid_7 rfl (lv_at hl 3 rfl) ?_
  refine lv_if_eq (tgt := 25) hx hb dX9_solid_8 (by decide) (fun c1 => ?_) (fun c1 => ?_)
  · replace h := q_t h c1
    refine lv_aload_n hx hb dX9_solid_25 rfl (lv_at hl 1 rfl) ?_
    refine gt_X9_12 C0 hw hk iX9_solid_X9 (by decide +kernel) dX9_solid_26 ?_
    refine lv_lload_n hx hb dX9_solid_29 rfl (lv_at hl 2 rfl) ?_
    refine lv_ldc2 (v := (-1 : Int64)) hx hb hown (hts (.constantLong RX9 100 (-1)) (by decide +kernel)) dX9_solid_30 ?_
    refine lv_lxor hx hb dX9_solid_33 ?_
    refine lv_land hx hb dX9_solid_34 ?_
    refine pt_X9_12 C0 hw hk iX9_solid_X9 (by decide +kernel) dX9_solid_35 (fun σ2 H locs e_σ2 hw => ?_)
    replace h := q_let_at e_σ2 h
    refine lv_lload hx hb dX9_solid_38 (lv_at hl 0 rfl) ?_
    refine lv_aload_n hx hb dX9_solid_40 rfl (lv_at hl 1 rfl) ?_
    refine gt_X9_12 C0 hw hk iX9_solid_X9 (by decide +kernel) dX9_solid_41 ?_
    refine lv_lxor hx hb dX9_solid_44 ?_
    obtain ⟨o3, hco3, h⟩ := q_bind h
    refine q_calli hw (va_runS (As := [.long ((σ.2 k 12) ^^^ (σ2.2 k 12))]) (rest := []) C0 (kX9_bits hco3 _) (va_cwS 1 hts gX9_solid_X9_bits rfl rfl rfl eX9_bits ⟨(Nat.le_of_ble_eq_true rfl), (Nat.le_of_ble_eq_true rfl)⟩) ⟨q_blind, q_pre hw⟩ rfl rfl hl.1 rfl (lv_room (Nat.le_of_ble_eq_true rfl)) dX9_solid_45 ⟨Nat.zero_le _, Nat.zero_le _⟩) (fun H locs hw => ?_)
    exact q_iret h C0 hr hlk hw dX9_solid_48
  · replace h := q_f h c1
    refine lv_aload_n hx hb dX9_solid_11 rfl (lv_at hl 1 rfl) ?_
    refine gt_X9_12 C0 hw hk iX9_solid_X9 (by decide +kernel) dX9_solid_12 ?_
    refine lv_lload_n hx hb dX9_solid_15 rfl (lv_at hl 2 rfl) ?_
    refine lv_aload_n hx hb dX9_solid_16 rfl (lv_at hl 1 rfl) ?_
    obtain ⟨o4, hco4, h⟩ := q_bind h
    refine q_calll hw (va_runV (As := []) (rest := [.long p1, .long (σ.2 k 12), .ref (ad k)]) C0 (kX9_block hk hco4 _) (cwV 0 hts gX9_solid_X9_block rfl rfl rfl eX9_block ⟨(Nat.le_of_ble_eq_true rfl), (Nat.le_of_ble_eq_true rfl)⟩) ⟨q_blind, q_recv hw (mN_0 hk) (mE_0 hk) rfl, q_pre hw⟩ rfl rfl hl.1 rfl (lv_room (Nat.le_of_ble_eq_true rfl)) dX9_solid_17 ⟨Nat.zero_le _, Nat.zero_le _⟩) (fun H locs hw => ?_)
    refine lv_land hx hb dX9_solid_20 ?_
    refine lv_lor hx hb dX9_solid_21 ?_
    refine lv_goto (tgt := 35) hx hb dX9_solid_22 (by decide) ?_
    refine pt_X9_12 C0 hw hk iX9_solid_X9 (by decide +kernel) dX9_solid_35 (fun σ5 H locs e_σ5 hw => ?_)
    replace h := q_let_at e_σ5 h
    refine lv_lload hx hb dX9_solid_38 (lv_at hl 0 rfl) ?_
    refine lv_aload_n hx hb dX9_solid_40 rfl (lv_at hl 1 rfl) ?_
    refine gt_X9_12 C0 hw hk iX9_solid_X9 (by decide +kernel) dX9_solid_41 ?_
    refine lv_lxor hx hb dX9_solid_44 ?_
    obtain ⟨o6, hco6, h⟩ := q_bind h
    refine q_calli hw (va_runS (As := [.long ((σ.2 k 12) ^^^ (σ5.2 k 12))]) (rest := []) C0 (kX9_bits hco6 _) (va_cwS 1 hts gX9_solid_X9_bits rfl rfl rfl eX9_bits ⟨(Nat.le_of_ble_eq_true rfl), (Nat.le_of_ble_eq_true rfl)⟩) ⟨q_blind, q_pre hw⟩ rfl rfl hl.1 rfl (lv_room (Nat.le_of_ble_eq_true rfl)) dX9_solid_45 ⟨Nat.zero_le _, Nat.zero_le _⟩) (fun H locs hw => ?_)
    exact q_iret h C0 hr hlk hw dX9_solid_48
-- X9_figure figure(I)I
theorem iX9_figure_X9 : ∀ w ∈ wsX90, w ∈ wsX9_figure := by decide +kernel
set_option maxHeartbeats 4000000 in
set_option maxRecDepth 100000 in
theorem tX9_figure_c19 {k : Nat} {p1 : Int32} (hk : mB N k) (C0 : CallFix p m c cX9_figure 4 s args wsX9_figure RX9) (hr : meth.sig.returnType = (some .int)) (hlk : meth.locks = false) {out : Int32 × q_M}  : ∀ n : Nat, ∀ (v3 : Int32) (σ : q_M) (H : Heap) (locs : List Loc) (ls : Array Slot), q_H (gM D cI cJ cR ad adK adV N) (q_A (gM D cI cJ cR ad adK adV N) s.heap.size) s σ H locs → lv_has ls 4 [(0, .ref (ad k)), (1, .int p1), (3, .int v3)] → fX9_figure_c19 k p1 n v3 σ = some out → W p l e { frames := 2, cells := 0, slots := 0, locals := 46 } s m args below meth c H locs 0 0 (MQ below (q_Ri (gM D cI cJ cR ad adK adV N) (q_A (gM D cI cJ cR ad adK adV N) s.heap.size) out) args s 0 0 (q_A (gM D cI cJ cR ad adK adV N) s.heap.size)) (F0 m 19 ls []) := by
  obtain ⟨hx, hb, hml, hown, hts⟩ := id C0
  intro n
  induction n with
  | zero =>
    intro v3 σ H locs ls  hw hl h
    cases (show (none : Option (Int32 × q_M)) = some out from h)
  | succ n hrec19 =>
    intro v3 σ H locs ls  hw hl h
    replace h : fX9_figure_c19b k p1 (fX9_figure_c19 k p1 n) v3 σ = some out := h
    unfold fX9_figure_c19b at h
    refine lv_iload_n hx hb dX9_figure_19 rfl (lv_at hl 2 rfl) ?_
    refine lv_aload_n hx hb dX9_figure_20 rfl (lv_at hl 0 rfl) ?_
    obtain ⟨o1, hco1, h⟩ := q_bind h
    refine q_calli hw (va_runV (As := []) (rest := [.int v3]) C0 (kX9_many hk hco1 _) (cwV 0 hts gX9_figure_X9_many rfl rfl rfl eX9_many ⟨(Nat.le_of_ble_eq_true rfl), (Nat.le_of_ble_eq_true rfl)⟩) ⟨q_blind, q_recv hw (mN_0 hk) (mE_0 hk) rfl, q_pre hw⟩ rfl rfl hl.1 rfl (lv_room (Nat.le_of_ble_eq_true rfl)) dX9_figure_21 ⟨Nat.zero_le _, Nat.zero_le _⟩) (fun H locs hw => ?_)
    refine lv_icmp_ge (tgt := 72) hx hb dX9_figure_24 (by decide) (fun c2 => ?_) (fun c2 => ?_)
    · replace h := q_t h c2
      refine lv_aload_n hx hb dX9_figure_72 rfl (lv_at hl 0 rfl) ?_
      refine gt_X9_12 C0 hw hk iX9_figure_X9 (by decide +kernel) dX9_figure_73 ?_
      obtain ⟨o3, hco3, h⟩ := q_bind h
      refine q_calli hw (va_runS (As := [.long (o1.2.2 k 12)]) (rest := []) C0 (kX9_bits hco3 _) (va_cwS 1 hts gX9_figure_X9_bits rfl rfl rfl eX9_bits ⟨(Nat.le_of_ble_eq_true rfl), (Nat.le_of_ble_eq_true rfl)⟩) ⟨q_blind, q_pre hw⟩ rfl rfl hl.1 rfl (lv_room (Nat.le_of_ble_eq_true rfl)) dX9_figure_76 ⟨Nat.zero_le _, Nat.zero_le _⟩) (fun H locs hw => ?_)
      exact q_iret h C0 hr hlk hw dX9_figure_79
    · replace h := q_f h c2
      refine lv_iload_n hx hb dX9_figure_27 rfl (lv_at hl 2 rfl) ?_
      refine lv_aload_n hx hb dX9_figure_28 rfl (lv_at hl 0 rfl) ?_
      refine gt_X9_2 C0 hw hk iX9_figure_X9 (by decide +kernel) dX9_figure_29 ?_
      refine lv_iload_n hx hb dX9_figure_32 rfl (lv_at hl 1 rfl) ?_
      obtain ⟨b4, h⟩ := q_if h
      refine q_iald (t0 := 0) C0 hw (mN_3 hk) (mE_3 hk) rfl b4 dX9_figure_33 ?_
      refine lv_icmp_ge (tgt := 72) hx hb dX9_figure_34 (by decide) (fun c5 => ?_) (fun c5 => ?_)
      · replace h := q_t h c5
        refine lv_aload_n hx hb dX9_figure_72 rfl (lv_at hl 0 rfl) ?_
        refine gt_X9_12 C0 hw hk iX9_figure_X9 (by decide +kernel) dX9_figure_73 ?_
        obtain ⟨o6, hco6, h⟩ := q_bind h
        refine q_calli hw (va_runS (As := [.long (o1.2.2 k 12)]) (rest := []) C0 (kX9_bits hco6 _) (va_cwS 1 hts gX9_figure_X9_bits rfl rfl rfl eX9_bits ⟨(Nat.le_of_ble_eq_true rfl), (Nat.le_of_ble_eq_true rfl)⟩) ⟨q_blind, q_pre hw⟩ rfl rfl hl.1 rfl (lv_room (Nat.le_of_ble_eq_true rfl)) dX9_figure_76 ⟨Nat.zero_le _, Nat.zero_le _⟩) (fun H locs hw => ?_)
        exact q_iret h C0 hr hlk hw dX9_figure_79
      · replace h := q_f h c5
        refine lv_aload_n hx hb dX9_figure_37 rfl (lv_at hl 0 rfl) ?_
        refine lv_dup hx hb dX9_figure_38 rfl ?_
        refine gt_X9_12 C0 hw hk iX9_figure_X9 (by decide +kernel) dX9_figure_39 ?_
        refine lv_aload_n hx hb dX9_figure_42 rfl (lv_at hl 0 rfl) ?_
        refine gt_X9_3 C0 hw hk iX9_figure_X9 (by decide +kernel) dX9_figure_43 ?_
        refine lv_iload_n hx hb dX9_figure_46 rfl (lv_at hl 1 rfl) ?_
        obtain ⟨b7, h⟩ := q_if h
        refine m_aald C0 hw hk b7 dX9_figure_47 ?_
        refine lv_iload_n hx hb dX9_figure_48 rfl (lv_at hl 2 rfl) ?_
        obtain ⟨b8, h⟩ := q_if h
        refine q_lald (t0 := 1) C0 hw (mN_r ⟨hk, b7⟩) (mE_r ⟨hk, b7⟩) rfl b8 dX9_figure_49 ?_
        refine lv_lconst (v := (0 : Int64)) hx hb dX9_figure_50 (by decide) ?_
        refine q_lcmp_eq (tgt := 61) C0 dX9_figure_51 dX9_figure_52 (by decide) (fun c9 => ?_) (fun c9 => ?_)
        · replace h := q_t h c9
          refine lv_lconst (v := (0 : Int64)) hx hb dX9_figure_61 (by decide) ?_
          refine lv_lor hx hb dX9_figure_62 ?_
          refine pt_X9_12 C0 hw hk iX9_figure_X9 (by decide +kernel) dX9_figure_63 (fun σ10 H locs e_σ10 hw => ?_)
          replace h := q_let_at e_σ10 h
          refine lv_iinc (v := (v3 + (1 : Int32))) (lv' := [(3, .int (v3 + (1 : Int32))), (0, .ref (ad k)), (1, .int p1)]) hx hb dX9_figure_66 hl (k := 2) rfl rfl (by decide) rfl (fun ls hl => ?_)
          refine lv_goto (tgt := 19) hx hb dX9_figure_69 (by decide) ?_
          exact hrec19 (v3 + (1 : Int32)) σ10 _ _ _ hw (lv_sub hl [1, 2, 0] rfl) h
        · replace h := q_f h c9
          refine lv_lconst (v := (1 : Int64)) hx hb dX9_figure_55 (by decide) ?_
          refine lv_iload_n hx hb dX9_figure_56 rfl (lv_at hl 2 rfl) ?_
          refine lv_lshl (v := (q_shl (1 : Int64) v3)) hx hb dX9_figure_57 rfl ?_
          refine lv_goto (tgt := 62) hx hb dX9_figure_58 (by decide) ?_
          refine lv_lor hx hb dX9_figure_62 ?_
          refine pt_X9_12 C0 hw hk iX9_figure_X9 (by decide +kernel) dX9_figure_63 (fun σ11 H locs e_σ11 hw => ?_)
          replace h := q_let_at e_σ11 h
          refine lv_iinc (v := (v3 + (1 : Int32))) (lv' := [(3, .int (v3 + (1 : Int32))), (0, .ref (ad k)), (1, .int p1)]) hx hb dX9_figure_66 hl (k := 2) rfl rfl (by decide) rfl (fun ls hl => ?_)
          refine lv_goto (tgt := 19) hx hb dX9_figure_69 (by decide) ?_
          exact hrec19 (v3 + (1 : Int32)) σ11 _ _ _ hw (lv_sub hl [1, 2, 0] rfl) h
set_option maxHeartbeats 4000000 in
set_option maxRecDepth 100000 in
theorem kX9_figure {k : Nat} {p1 : Int32} (hk : mB N k) {σ : q_M} {out : Int32 × q_M} (h : fX9_figure k p1 σ = some out) : q_Mi l (gM D cI cJ cR ad adK adV N) yX9_figure wsX9_figure { frames := 2, cells := 0, slots := 0, locals := 46 } [.ref (ad k), .int p1] σ out := by
  refine q_Mi_of (cc := cX9_figure) (maxL := 4) (ret := (some .int)) (by decide) rfl (Nat.le_of_ble_eq_true rfl) ?_
  intro p e s m below meth c ls C0 hr hlk hl hw
  obtain ⟨hx, hb, hml, hown, hts⟩ := id C0
  replace hl : lv_has ls 4 [(0, .ref (ad k)), (1, .int p1)] := hl
  unfold fX9_figure at h
  refine lv_aload_n hx hb dX9_figure_0 rfl (lv_at hl 0 rfl) ?_
  refine lv_iload_n hx hb dX9_figure_1 rfl (lv_at hl 1 rfl) ?_
  obtain ⟨o1, hco1, h⟩ := q_bind h
  refine q_calli hw (va_runV (As := [.int p1]) (rest := []) C0 (kX9_noRow hk hco1 _) (cwV 1 hts gX9_figure_X9_noRow rfl rfl rfl eX9_noRow ⟨(Nat.le_of_ble_eq_true rfl), (Nat.le_of_ble_eq_true rfl)⟩) ⟨q_blind, q_recv hw (mN_0 hk) (mE_0 hk) rfl, q_pre hw⟩ rfl rfl hl.1 rfl (lv_room (Nat.le_of_ble_eq_true rfl)) dX9_figure_2 ⟨Nat.zero_le _, Nat.zero_le _⟩) (fun H locs hw => ?_)
  refine lv_istore_n (lv' := [(2, .int o1.1), (0, .ref (ad k)), (1, .int p1)]) hx hb dX9_figure_5 rfl hl (by decide) rfl (fun ls hl => ?_)
  refine lv_iload_n hx hb dX9_figure_6 rfl (lv_at hl 0 rfl) ?_
  refine lv_if_eq (tgt := 12) hx hb dX9_figure_7 (by decide) (fun c2 => ?_) (fun c2 => ?_)
  · replace h := q_t h c2
    refine lv_aload_n hx hb dX9_figure_12 rfl (lv_at hl 1 rfl) ?_
    refine lv_lconst (v := (0 : Int64)) hx hb dX9_figure_13 (by decide) ?_
    refine pt_X9_12 C0 hw hk iX9_figure_X9 (by decide +kernel) dX9_figure_14 (fun σ3 H locs e_σ3 hw => ?_)
    replace h := q_let_at e_σ3 h
    refine lv_iconst (v := (0 : Int32)) hx hb dX9_figure_17 (by decide) ?_
    refine lv_istore_n (lv' := [(3, .int (0 : Int32)), (2, .int o1.1), (0, .ref (ad k)), (1, .int p1)]) hx hb dX9_figure_18 rfl hl (by decide) rfl (fun ls hl => ?_)
    exact tX9_figure_c19 hk C0 hr hlk q_FU (0 : Int32) σ3 _ _ _ hw (lv_sub hl [2, 3, 0] rfl) h
  · replace h := q_f h c2
    refine lv_iload_n hx hb dX9_figure_10 rfl (lv_at hl 0 rfl) ?_
    exact q_iret h C0 hr hlk hw dX9_figure_11
-- X9_piece piece(J)I
theorem iX9_piece_X9 : ∀ w ∈ wsX90, w ∈ wsX9_piece := by decide +kernel
set_option maxHeartbeats 4000000 in
set_option maxRecDepth 100000 in
theorem kX9_piece {k : Nat} {p1 : Int64} (hk : mB N k) {σ : q_M} {out : Int32 × q_M} (h : fX9_piece k p1 σ = some out) : q_Mi l (gM D cI cJ cR ad adK adV N) yX9_piece wsX9_piece { frames := 2, cells := 0, slots := 0, locals := 40 } [.ref (ad k), .long p1] σ out := by
  refine q_Mi_of (cc := cX9_piece) (maxL := 3) (ret := (some .int)) (by decide) rfl (Nat.le_of_ble_eq_true rfl) ?_
  intro p e s m below meth c ls C0 hr hlk hl hw
  obtain ⟨hx, hb, hml, hown, hts⟩ := id C0
  replace hl : lv_has ls 3 [(0, .ref (ad k)), (1, .long p1)] := hl
  unfold fX9_piece at h
  refine lv_aload_n hx hb dX9_piece_0 rfl (lv_at hl 0 rfl) ?_
  refine gt_X9_13 C0 hw hk iX9_piece_X9 (by decide +kernel) dX9_piece_1 ?_
  refine lv_bipush (v := (8 : Int32)) hx hb dX9_piece_4 (by decide) ?_
  refine lv_icmp_ne (tgt := 16) hx hb dX9_piece_6 (by decide) (fun c1 => ?_) (fun c1 => ?_)
  · replace h := q_f h c1
    refine lv_aload_n hx hb dX9_piece_16 rfl (lv_at hl 0 rfl) ?_
    refine gt_X9_14 C0 hw hk iX9_piece_X9 (by decide +kernel) dX9_piece_17 ?_
    refine lv_aload_n hx hb dX9_piece_20 rfl (lv_at hl 0 rfl) ?_
    refine gt_X9_13 C0 hw hk iX9_piece_X9 (by decide +kernel) dX9_piece_21 ?_
    refine lv_lload_n hx hb dX9_piece_24 rfl (lv_at hl 1 rfl) ?_
    refine lv_aload_n hx hb dX9_piece_25 rfl (lv_at hl 0 rfl) ?_
    obtain ⟨o2, hco2, h⟩ := q_bind h
    refine q_calll hw (va_runV (As := []) (rest := [.long p1, .int (σ.1 k 13), .ref (ad (k + 11))]) C0 (kX9_block hk hco2 _) (cwV 0 hts gX9_piece_X9_block rfl rfl rfl eX9_block ⟨(Nat.le_of_ble_eq_true rfl), (Nat.le_of_ble_eq_true rfl)⟩) ⟨q_blind, q_recv hw (mN_0 hk) (mE_0 hk) rfl, q_pre hw⟩ rfl rfl hl.1 rfl (lv_room (Nat.le_of_ble_eq_true rfl)) dX9_piece_26 ⟨Nat.zero_le _, Nat.zero_le _⟩) (fun H locs hw => ?_)
    refine lv_land hx hb dX9_piece_29 ?_
    obtain ⟨b3, h⟩ := q_if h
    refine q_last (t0 := 1) C0 hw (mN_11 hk) (mE_11 hk) rfl b3 dX9_piece_30 (fun σ4 H locs e_σ4 hw => ?_)
    replace h := q_let_at e_σ4 h
    refine lv_aload_n hx hb dX9_piece_31 rfl (lv_at hl 0 rfl) ?_
    refine lv_dup hx hb dX9_piece_32 rfl ?_
    refine gt_X9_15 C0 hw hk iX9_piece_X9 (by decide +kernel) dX9_piece_33 ?_
    refine lv_iconst (v := (1 : Int32)) hx hb dX9_piece_36 (by decide) ?_
    refine lv_aload_n hx hb dX9_piece_37 rfl (lv_at hl 0 rfl) ?_
    refine gt_X9_13 C0 hw hk iX9_piece_X9 (by decide +kernel) dX9_piece_38 ?_
    refine q_ishl (v := (q_sl (1 : Int32) (σ4.1 k 13))) C0 dX9_piece_41 rfl ?_
    refine lv_iconst (v := (-1 : Int32)) hx hb dX9_piece_42 (by decide) ?_
    refine lv_ixor hx hb dX9_piece_43 ?_
    refine lv_iand hx hb dX9_piece_44 ?_
    refine pt_X9_15 C0 hw hk iX9_piece_X9 (by decide +kernel) dX9_piece_45 (fun σ5 H locs e_σ5 hw => ?_)
    replace h := q_let_at e_σ5 h
    refine lv_aload_n hx hb dX9_piece_48 rfl (lv_at hl 0 rfl) ?_
    refine lv_dup hx hb dX9_piece_49 rfl ?_
    refine gt_X9_13 C0 hw hk iX9_piece_X9 (by decide +kernel) dX9_piece_50 ?_
    refine lv_dup_x1 hx hb dX9_piece_53 rfl rfl ?_
    refine lv_iconst (v := (1 : Int32)) hx hb dX9_piece_54 (by decide) ?_
    refine lv_iadd hx hb dX9_piece_55 ?_
    refine pt_X9_13 C0 hw hk iX9_piece_X9 (by decide +kernel) dX9_piece_56 (fun σ6 H locs e_σ6 hw => ?_)
    replace h := q_let_at e_σ6 h
    exact q_iret h C0 hr hlk hw dX9_piece_59
  · replace h := q_t h c1
    refine lv_aload_n hx hb dX9_piece_9 rfl (lv_at hl 0 rfl) ?_
    refine lv_bipush (v := (-6 : Int32)) hx hb dX9_piece_10 (by decide) ?_
    obtain ⟨o7, hco7, h⟩ := q_bind h
    refine q_calli hw (va_runV (As := [.int (-6 : Int32)]) (rest := []) C0 (kX9_refuse hk hco7 _) (cwV 1 hts gX9_piece_X9_refuse rfl rfl rfl eX9_refuse ⟨(Nat.le_of_ble_eq_true rfl), (Nat.le_of_ble_eq_true rfl)⟩) ⟨q_blind, q_recv hw (mN_0 hk) (mE_0 hk) rfl, q_pre hw⟩ rfl rfl hl.1 rfl (lv_room (Nat.le_of_ble_eq_true rfl)) dX9_piece_12 ⟨Nat.zero_le _, Nat.zero_le _⟩) (fun H locs hw => ?_)
    exact q_iret h C0 hr hlk hw dX9_piece_15
-- X9_alter alter(IJ)I
theorem iX9_alter_X9 : ∀ w ∈ wsX90, w ∈ wsX9_alter := by decide +kernel
theorem eX9_isOff : yX9_isOff.cls = RX9 ∧ yX9_isOff.cls ≠ "java/lang/invoke/MethodHandle" ∧ yX9_isOff.cls ≠ "java/lang/invoke/VarHandle" ∧ (parseMethodDescriptor yX9_isOff.desc).map (fun d => d.parameters.length) = some 1 := by decide +kernel
theorem eX9_isPiece : yX9_isPiece.cls = RX9 ∧ yX9_isPiece.cls ≠ "java/lang/invoke/MethodHandle" ∧ yX9_isPiece.cls ≠ "java/lang/invoke/VarHandle" ∧ (parseMethodDescriptor yX9_isPiece.desc).map (fun d => d.parameters.length) = some 1 := by decide +kernel
set_option maxHeartbeats 4000000 in
set_option maxRecDepth 100000 in
theorem kX9_alter {k : Nat} {p1 : Int32} {p2 : Int64} (hk : mB N k) {σ : q_M} {out : Int32 × q_M} (h : fX9_alter k p1 p2 σ = some out) : q_Mi l (gM D cI cJ cR ad adK adV N) yX9_alter wsX9_alter { frames := 2, cells := 0, slots := 0, locals := 46 } [.ref (ad k), .int p1, .long p2] σ out := by
  refine q_Mi_of (cc := cX9_alter) (maxL := 5) (ret := (some .int)) (by decide) rfl (Nat.le_of_ble_eq_true rfl) ?_
  intro p e s m below meth c ls C0 hr hlk hl hw
  obtain ⟨hx, hb, hml, hown, hts⟩ := id C0
  replace hl : lv_has ls 5 [(0, .ref (ad k)), (1, .int p1), (2, .long p2)] := hl
  unfold fX9_alter at h
  refine lv_aload_n hx hb dX9_alter_0 rfl (lv_at hl 0 rfl) ?_
  refine lv_iload_n hx hb dX9_alter_1 rfl (lv_at hl 1 rfl) ?_
  obtain ⟨o1, hco1, h⟩ := q_bind h
  refine q_calli hw (va_runV (As := [.int p1]) (rest := []) C0 (kX9_isPiece hk hco1 _) (cwV 1 hts gX9_alter_X9_isPiece rfl rfl rfl eX9_isPiece ⟨(Nat.le_of_ble_eq_true rfl), (Nat.le_of_ble_eq_true rfl)⟩) ⟨q_blind, q_recv hw (mN_0 hk) (mE_0 hk) rfl, q_pre hw⟩ rfl rfl hl.1 rfl (lv_room (Nat.le_of_ble_eq_true rfl)) dX9_alter_2 ⟨Nat.zero_le _, Nat.zero_le _⟩) (fun H locs hw => ?_)
  refine lv_if_ne (tgt := 15) hx hb dX9_alter_5 (by decide) (fun c2 => ?_) (fun c2 => ?_)
  · replace h := q_f h c2
    refine lv_aload_n hx hb dX9_alter_15 rfl (lv_at hl 0 rfl) ?_
    refine lv_iload_n hx hb dX9_alter_16 rfl (lv_at hl 1 rfl) ?_
    obtain ⟨o3, hco3, h⟩ := q_bind h
    refine q_calli hw (va_runV (As := [.int p1]) (rest := []) C0 (kX9_isOff hk hco3 _) (cwV 1 hts gX9_alter_X9_isOff rfl rfl rfl eX9_isOff ⟨(Nat.le_of_ble_eq_true rfl), (Nat.le_of_ble_eq_true rfl)⟩) ⟨q_blind, q_recv hw (mN_0 hk) (mE_0 hk) rfl, q_pre hw⟩ rfl rfl hl.1 rfl (lv_room (Nat.le_of_ble_eq_true rfl)) dX9_alter_17 ⟨Nat.zero_le _, Nat.zero_le _⟩) (fun H locs hw => ?_)
    refine lv_if_eq (tgt := 30) hx hb dX9_alter_20 (by decide) (fun c4 => ?_) (fun c4 => ?_)
    · replace h := q_t h c4
      refine lv_aload_n hx hb dX9_alter_30 rfl (lv_at hl 0 rfl) ?_
      refine gt_X9_14 C0 hw hk iX9_alter_X9 (by decide +kernel) dX9_alter_31 ?_
      refine lv_iload_n hx hb dX9_alter_34 rfl (lv_at hl 1 rfl) ?_
      obtain ⟨b5, h⟩ := q_if h
      refine q_lald (t0 := 1) C0 hw (mN_11 hk) (mE_11 hk) rfl b5 dX9_alter_35 ?_
      obtain ⟨o6, hco6, h⟩ := q_bind h
      refine q_calli hw (va_runS (As := [.long (o3.2.2 (k + 11) p1.toNatClampNeg)]) (rest := []) C0 (kX9_bits hco6 _) (va_cwS 1 hts gX9_alter_X9_bits rfl rfl rfl eX9_bits ⟨(Nat.le_of_ble_eq_true rfl), (Nat.le_of_ble_eq_true rfl)⟩) ⟨q_blind, q_pre hw⟩ rfl rfl hl.1 rfl (lv_room (Nat.le_of_ble_eq_true rfl)) dX9_alter_36 ⟨Nat.zero_le _, Nat.zero_le _⟩) (fun H locs hw => ?_)
      refine lv_istore (lv' := [(4, .int o6.1), (0, .ref (ad k)), (1, .int p1), (2, .long p2)]) hx hb dX9_alter_39 hl (by decide) rfl (fun ls hl => ?_)
      refine lv_aload_n hx hb dX9_alter_41 rfl (lv_at hl 1 rfl) ?_
      refine gt_X9_14 C0 hw hk iX9_alter_X9 (by decide +kernel) dX9_alter_42 ?_
      refine lv_iload_n hx hb dX9_alter_45 rfl (lv_at hl 2 rfl) ?_
      refine lv_lload_n hx hb dX9_alter_46 rfl (lv_at hl 3 rfl) ?_
      refine lv_aload_n hx hb dX9_alter_47 rfl (lv_at hl 1 rfl) ?_
      obtain ⟨o7, hco7, h⟩ := q_bind h
      refine q_calll hw (va_runV (As := []) (rest := [.long p2, .int p1, .ref (ad (k + 11))]) C0 (kX9_block hk hco7 _) (cwV 0 hts gX9_alter_X9_block rfl rfl rfl eX9_block ⟨(Nat.le_of_ble_eq_true rfl), (Nat.le_of_ble_eq_true rfl)⟩) ⟨q_blind, q_recv hw (mN_0 hk) (mE_0 hk) rfl, q_pre hw⟩ rfl rfl hl.1 rfl (lv_room (Nat.le_of_ble_eq_true rfl)) dX9_alter_48 ⟨Nat.zero_le _, Nat.zero_le _⟩) (fun H locs hw => ?_)
      refine lv_land hx hb dX9_alter_51 ?_
      obtain ⟨b8, h⟩ := q_if h
      refine q_last (t0 := 1) C0 hw (mN_11 hk) (mE_11 hk) rfl b8 dX9_alter_52 (fun σ9 H locs e_σ9 hw => ?_)
      replace h := q_let_at e_σ9 h
      refine lv_iload hx hb dX9_alter_53 (lv_at hl 0 rfl) ?_
      exact q_iret h C0 hr hlk hw dX9_alter_55
    · replace h := q_f h c4
      refine lv_aload_n hx hb dX9_alter_23 rfl (lv_at hl 0 rfl) ?_
      refine lv_bipush (v := (-5 : Int32)) hx hb dX9_alter_24 (by decide) ?_
      obtain ⟨o10, hco10, h⟩ := q_bind h
      refine q_calli hw (va_runV (As := [.int (-5 : Int32)]) (rest := []) C0 (kX9_refuse hk hco10 _) (cwV 1 hts gX9_alter_X9_refuse rfl rfl rfl eX9_refuse ⟨(Nat.le_of_ble_eq_true rfl), (Nat.le_of_ble_eq_true rfl)⟩) ⟨q_blind, q_recv hw (mN_0 hk) (mE_0 hk) rfl, q_pre hw⟩ rfl rfl hl.1 rfl (lv_room (Nat.le_of_ble_eq_true rfl)) dX9_alter_26 ⟨Nat.zero_le _, Nat.zero_le _⟩) (fun H locs hw => ?_)
      exact q_iret h C0 hr hlk hw dX9_alter_29
  · replace h := q_t h c2
    refine lv_aload_n hx hb dX9_alter_8 rfl (lv_at hl 0 rfl) ?_
    refine lv_bipush (v := (-2 : Int32)) hx hb dX9_alter_9 (by decide) ?_
    obtain ⟨o11, hco11, h⟩ := q_bind h
    refine q_calli hw (va_runV (As := [.int (-2 : Int32)]) (rest := []) C0 (kX9_refuse hk hco11 _) (cwV 1 hts gX9_alter_X9_refuse rfl rfl rfl eX9_refuse ⟨(Nat.le_of_ble_eq_true rfl), (Nat.le_of_ble_eq_true rfl)⟩) ⟨q_blind, q_recv hw (mN_0 hk) (mE_0 hk) rfl, q_pre hw⟩ rfl rfl hl.1 rfl (lv_room (Nat.le_of_ble_eq_true rfl)) dX9_alter_11 ⟨Nat.zero_le _, Nat.zero_le _⟩) (fun H locs hw => ?_)
    exact q_iret h C0 hr hlk hw dX9_alter_14
-- X9_ask ask(III)I
theorem iX9_ask_X9 : ∀ w ∈ wsX90, w ∈ wsX9_ask := by decide +kernel
theorem eX9_isCube : yX9_isCube.cls = RX9 ∧ yX9_isCube.cls ≠ "java/lang/invoke/MethodHandle" ∧ yX9_isCube.cls ≠ "java/lang/invoke/VarHandle" ∧ (parseMethodDescriptor yX9_isCube.desc).map (fun d => d.parameters.length) = some 1 := by decide +kernel
set_option maxHeartbeats 4000000 in
set_option maxRecDepth 100000 in
theorem kX9_ask {k : Nat} {p1 : Int32} {p2 : Int32} {p3 : Int32} (hk : mB N k) {σ : q_M} {out : Int32 × q_M} (h : fX9_ask k p1 p2 p3 σ = some out) : q_Mi l (gM D cI cJ cR ad adK adV N) yX9_ask wsX9_ask { frames := 2, cells := 0, slots := 0, locals := 46 } [.ref (ad k), .int p1, .int p2, .int p3] σ out := by
  refine q_Mi_of (cc := cX9_ask) (maxL := 5) (ret := (some .int)) (by decide) rfl (Nat.le_of_ble_eq_true rfl) ?_
  intro p e s m below meth c ls C0 hr hlk hl hw
  obtain ⟨hx, hb, hml, hown, hts⟩ := id C0
  replace hl : lv_has ls 5 [(0, .ref (ad k)), (1, .int p1), (2, .int p2), (3, .int p3)] := hl
  unfold fX9_ask at h
  refine lv_iload_n hx hb dX9_ask_0 rfl (lv_at hl 1 rfl) ?_
  by_cases c1 : p1 = (0 : Int32)
  · replace h := q_t h c1
    refine q_tabIn (off := 27) (tgt := 28) C0 c1 dX9_ask_1 (by decide) (by decide) rfl (by decide) ?_
    refine lv_aload_n hx hb dX9_ask_28 rfl (lv_at hl 0 rfl) ?_
    refine lv_iload_n hx hb dX9_ask_29 rfl (lv_at hl 2 rfl) ?_
    obtain ⟨o2, hco2, h⟩ := q_bind h
    refine q_calli hw (va_runV (As := [.int p2]) (rest := []) C0 (kX9_isCube hk hco2 _) (cwV 1 hts gX9_ask_X9_isCube rfl rfl rfl eX9_isCube ⟨(Nat.le_of_ble_eq_true rfl), (Nat.le_of_ble_eq_true rfl)⟩) ⟨q_blind, q_recv hw (mN_0 hk) (mE_0 hk) rfl, q_pre hw⟩ rfl rfl hl.1 rfl (lv_room (Nat.le_of_ble_eq_true rfl)) dX9_ask_30 ⟨Nat.zero_le _, Nat.zero_le _⟩) (fun H locs hw => ?_)
    refine lv_if_eq (tgt := 48) hx hb dX9_ask_33 (by decide) (fun c3 => ?_) (fun c3 => ?_)
    · replace h := q_t h c3
      refine lv_aload_n hx hb dX9_ask_48 rfl (lv_at hl 0 rfl) ?_
      refine lv_bipush (v := (-2 : Int32)) hx hb dX9_ask_49 (by decide) ?_
      obtain ⟨o4, hco4, h⟩ := q_bind h
      refine q_calli hw (va_runV (As := [.int (-2 : Int32)]) (rest := []) C0 (kX9_refuse hk hco4 _) (cwV 1 hts gX9_ask_X9_refuse rfl rfl rfl eX9_refuse ⟨(Nat.le_of_ble_eq_true rfl), (Nat.le_of_ble_eq_true rfl)⟩) ⟨q_blind, q_recv hw (mN_0 hk) (mE_0 hk) rfl, q_pre hw⟩ rfl rfl hl.1 rfl (lv_room (Nat.le_of_ble_eq_true rfl)) dX9_ask_51 ⟨Nat.zero_le _, Nat.zero_le _⟩) (fun H locs hw => ?_)
      exact q_iret h C0 hr hlk hw dX9_ask_54
    · replace h := q_f h c3
      refine lv_iload_n hx hb dX9_ask_36 rfl (lv_at hl 3 rfl) ?_
      refine lv_i2l hx hb dX9_ask_37 rfl ?_
      refine lv_lconst (v := (0 : Int64)) hx hb dX9_ask_38 (by decide) ?_
      refine lv_ldc2 (v := (9 : Int64)) hx hb hown (hts (.constantLong RX9 172 (9)) (by decide +kernel)) dX9_ask_39 ?_
      obtain ⟨o5, hco5, h⟩ := q_bind h
      refine q_calli hw (va_runS (As := [.long p3.toInt64, .long (0 : Int64), .long (9 : Int64)]) (rest := []) C0 (kX9_in hco5 _) (va_cwS 3 hts gX9_ask_X9_in rfl rfl rfl eX9_in ⟨(Nat.le_of_ble_eq_true rfl), (Nat.le_of_ble_eq_true rfl)⟩) ⟨q_blind, q_pre hw⟩ rfl rfl hl.1 rfl (lv_room (Nat.le_of_ble_eq_true rfl)) dX9_ask_42 ⟨Nat.zero_le _, Nat.zero_le _⟩) (fun H locs hw => ?_)
      refine lv_if_ne (tgt := 55) hx hb dX9_ask_45 (by decide) (fun c6 => ?_) (fun c6 => ?_)
      · replace h := q_f h c6
        refine lv_aload_n hx hb dX9_ask_55 rfl (lv_at hl 0 rfl) ?_
        refine gt_X9_16 C0 hw hk iX9_ask_X9 (by decide +kernel) dX9_ask_56 ?_
        refine lv_iload_n hx hb dX9_ask_59 rfl (lv_at hl 2 rfl) ?_
        obtain ⟨b7, h⟩ := q_if h
        refine q_iald (t0 := 0) C0 hw (mN_12 hk) (mE_12 hk) rfl b7 dX9_ask_60 ?_
        refine lv_topi (fun x8 e_x8 => ?_)
        replace h := q_let_at e_x8 h
        refine lv_istore (lv' := [(4, .int x8), (0, .ref (ad k)), (1, .int p1), (2, .int p2), (3, .int p3)]) hx hb dX9_ask_61 hl (by decide) rfl (fun ls hl => ?_)
        refine lv_aload_n hx hb dX9_ask_63 rfl (lv_at hl 1 rfl) ?_
        refine gt_X9_16 C0 hw hk iX9_ask_X9 (by decide +kernel) dX9_ask_64 ?_
        refine lv_iload_n hx hb dX9_ask_67 rfl (lv_at hl 3 rfl) ?_
        refine lv_iload_n hx hb dX9_ask_68 rfl (lv_at hl 4 rfl) ?_
        obtain ⟨b9, h⟩ := q_if h
        refine q_iast (t0 := 0) C0 hw (mN_12 hk) (mE_12 hk) rfl b9 dX9_ask_69 (fun σ10 H locs e_σ10 hw => ?_)
        replace h := q_let_at e_σ10 h
        refine lv_iload hx hb dX9_ask_70 (lv_at hl 0 rfl) ?_
        exact q_iret h C0 hr hlk hw dX9_ask_72
      · replace h := q_t h c6
        refine lv_aload_n hx hb dX9_ask_48 rfl (lv_at hl 0 rfl) ?_
        refine lv_bipush (v := (-2 : Int32)) hx hb dX9_ask_49 (by decide) ?_
        obtain ⟨o11, hco11, h⟩ := q_bind h
        refine q_calli hw (va_runV (As := [.int (-2 : Int32)]) (rest := []) C0 (kX9_refuse hk hco11 _) (cwV 1 hts gX9_ask_X9_refuse rfl rfl rfl eX9_refuse ⟨(Nat.le_of_ble_eq_true rfl), (Nat.le_of_ble_eq_true rfl)⟩) ⟨q_blind, q_recv hw (mN_0 hk) (mE_0 hk) rfl, q_pre hw⟩ rfl rfl hl.1 rfl (lv_room (Nat.le_of_ble_eq_true rfl)) dX9_ask_51 ⟨Nat.zero_le _, Nat.zero_le _⟩) (fun H locs hw => ?_)
        exact q_iret h C0 hr hlk hw dX9_ask_54
  · replace h := q_f h c1
    by_cases c12 : p1 = (1 : Int32)
    · replace h := q_t h c12
      refine q_tabIn (off := 72) (tgt := 73) C0 c12 dX9_ask_1 (by decide) (by decide) rfl (by decide) ?_
      refine lv_iload_n hx hb dX9_ask_73 rfl (lv_at hl 3 rfl) ?_
      refine lv_i2l hx hb dX9_ask_74 rfl ?_
      refine lv_lconst (v := (1 : Int64)) hx hb dX9_ask_75 (by decide) ?_
      refine lv_ldc2 (v := (64 : Int64)) hx hb hown (hts (.constantLong RX9 174 (64)) (by decide +kernel)) dX9_ask_76 ?_
      obtain ⟨o13, hco13, h⟩ := q_bind h
      refine q_calli hw (va_runS (As := [.long p3.toInt64, .long (1 : Int64), .long (64 : Int64)]) (rest := []) C0 (kX9_in hco13 _) (va_cwS 3 hts gX9_ask_X9_in rfl rfl rfl eX9_in ⟨(Nat.le_of_ble_eq_true rfl), (Nat.le_of_ble_eq_true rfl)⟩) ⟨q_blind, q_pre hw⟩ rfl rfl hl.1 rfl (lv_room (Nat.le_of_ble_eq_true rfl)) dX9_ask_79 ⟨Nat.zero_le _, Nat.zero_le _⟩) (fun H locs hw => ?_)
      refine lv_if_ne (tgt := 92) hx hb dX9_ask_82 (by decide) (fun c14 => ?_) (fun c14 => ?_)
      · replace h := q_f h c14
        refine lv_aload_n hx hb dX9_ask_92 rfl (lv_at hl 0 rfl) ?_
        refine gt_X9_17 C0 hw hk iX9_ask_X9 (by decide +kernel) dX9_ask_93 ?_
        refine lv_istore (lv' := [(4, .int (o13.2.1 k 17)), (0, .ref (ad k)), (1, .int p1), (2, .int p2), (3, .int p3)]) hx hb dX9_ask_96 hl (by decide) rfl (fun ls hl => ?_)
        refine lv_aload_n hx hb dX9_ask_98 rfl (lv_at hl 1 rfl) ?_
        refine lv_iload_n hx hb dX9_ask_99 rfl (lv_at hl 4 rfl) ?_
        refine pt_X9_17 C0 hw hk iX9_ask_X9 (by decide +kernel) dX9_ask_100 (fun σ15 H locs e_σ15 hw => ?_)
        replace h := q_let_at e_σ15 h
        refine lv_iload hx hb dX9_ask_103 (lv_at hl 0 rfl) ?_
        exact q_iret h C0 hr hlk hw dX9_ask_105
      · replace h := q_t h c14
        refine lv_aload_n hx hb dX9_ask_85 rfl (lv_at hl 0 rfl) ?_
        refine lv_bipush (v := (-2 : Int32)) hx hb dX9_ask_86 (by decide) ?_
        obtain ⟨o16, hco16, h⟩ := q_bind h
        refine q_calli hw (va_runV (As := [.int (-2 : Int32)]) (rest := []) C0 (kX9_refuse hk hco16 _) (cwV 1 hts gX9_ask_X9_refuse rfl rfl rfl eX9_refuse ⟨(Nat.le_of_ble_eq_true rfl), (Nat.le_of_ble_eq_true rfl)⟩) ⟨q_blind, q_recv hw (mN_0 hk) (mE_0 hk) rfl, q_pre hw⟩ rfl rfl hl.1 rfl (lv_room (Nat.le_of_ble_eq_true rfl)) dX9_ask_88 ⟨Nat.zero_le _, Nat.zero_le _⟩) (fun H locs hw => ?_)
        exact q_iret h C0 hr hlk hw dX9_ask_91
    · replace h := q_f h c12
      by_cases c17 : p1 = (2 : Int32)
      · replace h := q_t h c17
        refine q_tabIn (off := 105) (tgt := 106) C0 c17 dX9_ask_1 (by decide) (by decide) rfl (by decide) ?_
        refine lv_iload_n hx hb dX9_ask_106 rfl (lv_at hl 3 rfl) ?_
        refine lv_i2l hx hb dX9_ask_107 rfl ?_
        refine lv_lconst (v := (1 : Int64)) hx hb dX9_ask_108 (by decide) ?_
        refine lv_ldc2 (v := (999 : Int64)) hx hb hown (hts (.constantLong RX9 176 (999)) (by decide +kernel)) dX9_ask_109 ?_
        obtain ⟨o18, hco18, h⟩ := q_bind h
        refine q_calli hw (va_runS (As := [.long p3.toInt64, .long (1 : Int64), .long (999 : Int64)]) (rest := []) C0 (kX9_in hco18 _) (va_cwS 3 hts gX9_ask_X9_in rfl rfl rfl eX9_in ⟨(Nat.le_of_ble_eq_true rfl), (Nat.le_of_ble_eq_true rfl)⟩) ⟨q_blind, q_pre hw⟩ rfl rfl hl.1 rfl (lv_room (Nat.le_of_ble_eq_true rfl)) dX9_ask_112 ⟨Nat.zero_le _, Nat.zero_le _⟩) (fun H locs hw => ?_)
        refine lv_if_ne (tgt := 125) hx hb dX9_ask_115 (by decide) (fun c19 => ?_) (fun c19 => ?_)
        · replace h := q_f h c19
          refine lv_aload_n hx hb dX9_ask_125 rfl (lv_at hl 0 rfl) ?_
          refine gt_X9_18 C0 hw hk iX9_ask_X9 (by decide +kernel) dX9_ask_126 ?_
          refine lv_istore (lv' := [(4, .int (o18.2.1 k 18)), (0, .ref (ad k)), (1, .int p1), (2, .int p2), (3, .int p3)]) hx hb dX9_ask_129 hl (by decide) rfl (fun ls hl => ?_)
          refine lv_aload_n hx hb dX9_ask_131 rfl (lv_at hl 1 rfl) ?_
          refine lv_iload_n hx hb dX9_ask_132 rfl (lv_at hl 4 rfl) ?_
          refine pt_X9_18 C0 hw hk iX9_ask_X9 (by decide +kernel) dX9_ask_133 (fun σ20 H locs e_σ20 hw => ?_)
          replace h := q_let_at e_σ20 h
          refine lv_iload hx hb dX9_ask_136 (lv_at hl 0 rfl) ?_
          exact q_iret h C0 hr hlk hw dX9_ask_138
        · replace h := q_t h c19
          refine lv_aload_n hx hb dX9_ask_118 rfl (lv_at hl 0 rfl) ?_
          refine lv_bipush (v := (-2 : Int32)) hx hb dX9_ask_119 (by decide) ?_
          obtain ⟨o21, hco21, h⟩ := q_bind h
          refine q_calli hw (va_runV (As := [.int (-2 : Int32)]) (rest := []) C0 (kX9_refuse hk hco21 _) (cwV 1 hts gX9_ask_X9_refuse rfl rfl rfl eX9_refuse ⟨(Nat.le_of_ble_eq_true rfl), (Nat.le_of_ble_eq_true rfl)⟩) ⟨q_blind, q_recv hw (mN_0 hk) (mE_0 hk) rfl, q_pre hw⟩ rfl rfl hl.1 rfl (lv_room (Nat.le_of_ble_eq_true rfl)) dX9_ask_121 ⟨Nat.zero_le _, Nat.zero_le _⟩) (fun H locs hw => ?_)
          exact q_iret h C0 hr hlk hw dX9_ask_124
      · replace h := q_f h c17
        have n_c1 := q_neI (n := 0) c1 (by decide)
        have n_c12 := q_neI (n := 1) c12 (by decide)
        have n_c17 := q_neI (n := 2) c17 (by decide)
        refine lv_tableOut (tgt := 139) hx hb dX9_ask_1 (by omega) (by decide) ?_
        refine lv_aload_n hx hb dX9_ask_139 rfl (lv_at hl 0 rfl) ?_
        refine lv_bipush (v := (-2 : Int32)) hx hb dX9_ask_140 (by decide) ?_
        obtain ⟨o22, hco22, h⟩ := q_bind h
        refine q_calli hw (va_runV (As := [.int (-2 : Int32)]) (rest := []) C0 (kX9_refuse hk hco22 _) (cwV 1 hts gX9_ask_X9_refuse rfl rfl rfl eX9_refuse ⟨(Nat.le_of_ble_eq_true rfl), (Nat.le_of_ble_eq_true rfl)⟩) ⟨q_blind, q_recv hw (mN_0 hk) (mE_0 hk) rfl, q_pre hw⟩ rfl rfl hl.1 rfl (lv_room (Nat.le_of_ble_eq_true rfl)) dX9_ask_142 ⟨Nat.zero_le _, Nat.zero_le _⟩) (fun H locs hw => ?_)
        exact q_iret h C0 hr hlk hw dX9_ask_145
end
