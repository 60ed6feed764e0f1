section
variable {p : Program} {l : Launch} {e : Env} {s : State} {m : MethodId} {args : Array Value} {below : List Frame} {meth : Method} {c : Code} {D : va_G} {cI cJ cR : ClassId} {ad adK adV : Nat → Nat} {N : Nat}
-- X9_feed feed(II)I
theorem iX9_feed_X9 : ∀ w ∈ wsX90, w ∈ wsX9_feed := by decide +kernel
set_option maxHeartbeats 4000000 in
set_option maxRecDepth 100000 in
theorem tX9_feed_c42 {k : Nat} {p1 : Int32} {p2 : Int32} (hk : mB N k) (C0 : CallFix p m c cX9_feed 4 s args wsX9_feed RX9) (hr : meth.sig.returnType = (some .int)) (hlk : meth.locks = false) {out : Int32 × q_M}  : ∀ n : Nat, ∀ (v3 : Int32) (σ : q_M) (H : Heap) (locs : List Loc) (ls : Array Slot), q_H (gM D cI cJ cR ad adK adV N) (q_A (gM D cI cJ cR ad adK adV N) s.heap.size) s σ H locs → lv_has ls 4 [(0, .ref (ad k)), (1, .int p1), (3, .int v3)] → fX9_feed_c42 k p1 p2 n v3 σ = some out → W p l e { frames := 1, cells := 0, slots := 0, locals := 25 } s m args below meth c H locs 0 0 (MQ below (q_Ri (gM D cI cJ cR ad adK adV N) (q_A (gM D cI cJ cR ad adK adV N) s.heap.size) out) args s 0 0 (q_A (gM D cI cJ cR ad adK adV N) s.heap.size)) (F0 m 42 ls []) := by
  obtain ⟨hx, hb, hml, hown, hts⟩ := id C0
  intro n
  induction n with
  | zero =>
    intro v3 σ H locs ls  hw hl h
    cases (show (none : Option (Int32 × q_M)) = some out from h)
  | succ n hrec42 =>
    intro v3 σ H locs ls  hw hl h
    replace h : fX9_feed_c42b k p1 p2 (fX9_feed_c42 k p1 p2 n) v3 σ = some out := h
    unfold fX9_feed_c42b at h
    refine lv_iload_n hx hb dX9_feed_42 rfl (lv_at hl 2 rfl) ?_
    refine lv_if_lt (tgt := 78) hx hb dX9_feed_43 (by decide) (fun c1 => ?_) (fun c1 => ?_)
    · replace h := q_t h c1
      refine lv_aload_n hx hb dX9_feed_78 rfl (lv_at hl 0 rfl) ?_
      refine gt_X9_9 C0 hw hk iX9_feed_X9 (by decide +kernel) dX9_feed_79 ?_
      exact q_iret h C0 hr hlk hw dX9_feed_82
    · replace h := q_f h c1
      refine lv_aload_n hx hb dX9_feed_46 rfl (lv_at hl 0 rfl) ?_
      refine gt_X9_8 C0 hw hk iX9_feed_X9 (by decide +kernel) dX9_feed_47 ?_
      refine lv_aload_n hx hb dX9_feed_50 rfl (lv_at hl 0 rfl) ?_
      refine lv_dup hx hb dX9_feed_51 rfl ?_
      refine gt_X9_9 C0 hw hk iX9_feed_X9 (by decide +kernel) dX9_feed_52 ?_
      refine lv_dup_x1 hx hb dX9_feed_55 rfl rfl ?_
      refine lv_iconst (v := (1 : Int32)) hx hb dX9_feed_56 (by decide) ?_
      refine lv_iadd hx hb dX9_feed_57 ?_
      refine pt_X9_9 C0 hw hk iX9_feed_X9 (by decide +kernel) dX9_feed_58 (fun σ2 H locs e_σ2 hw => ?_)
      replace h := q_let_at e_σ2 h
      refine lv_iload_n hx hb dX9_feed_61 rfl (lv_at hl 1 rfl) ?_
      refine lv_bipush (v := (8 : Int32)) hx hb dX9_feed_62 (by decide) ?_
      refine lv_iload_n hx hb dX9_feed_64 rfl (lv_at hl 2 rfl) ?_
      refine lv_imul hx hb dX9_feed_65 ?_
      refine q_ishr (v := (q_sr p1 ((8 : Int32) * v3))) C0 dX9_feed_66 rfl ?_
      refine lv_sipush (v := (255 : Int32)) hx hb dX9_feed_67 (by decide) ?_
      refine lv_iand hx hb dX9_feed_70 ?_
      obtain ⟨b3, h⟩ := q_if h
      refine q_iast (t0 := 0) C0 hw (mN_9 hk) (mE_9 hk) rfl b3 dX9_feed_71 (fun σ4 H locs e_σ4 hw => ?_)
      replace h := q_let_at e_σ4 h
      refine lv_iinc (v := (v3 + (-1 : Int32))) (lv' := [(3, .int (v3 + (-1 : Int32))), (0, .ref (ad k)), (1, .int p1)]) hx hb dX9_feed_72 hl (k := 2) rfl rfl (by decide) rfl (fun ls hl => ?_)
      refine lv_goto (tgt := 42) hx hb dX9_feed_75 (by decide) ?_
      exact hrec42 (v3 + (-1 : Int32)) σ4 _ _ _ hw (lv_sub hl [1, 2, 0] rfl) h
set_option maxHeartbeats 4000000 in
set_option maxRecDepth 100000 in
theorem kX9_feed {k : Nat} {p1 : Int32} {p2 : Int32} (hk : mB N k) {σ : q_M} {out : Int32 × q_M} (h : fX9_feed k p1 p2 σ = some out) : q_Mi l (gM D cI cJ cR ad adK adV N) yX9_feed wsX9_feed { frames := 1, cells := 0, slots := 0, locals := 25 } [.ref (ad k), .int p1, .int p2] σ out := by
  refine q_Mi_of (cc := cX9_feed) (maxL := 4) (ret := (some .int)) (by decide) rfl (Nat.le_of_ble_eq_true rfl) ?_
  intro p e s m below meth c ls C0 hr hlk hl hw
  obtain ⟨hx, hb, hml, hown, hts⟩ := id C0
  replace hl : lv_has ls 4 [(0, .ref (ad k)), (1, .int p1), (2, .int p2)] := hl
  unfold fX9_feed at h
  refine lv_iload_n hx hb dX9_feed_0 rfl (lv_at hl 2 rfl) ?_
  refine lv_i2l hx hb dX9_feed_1 rfl ?_
  refine lv_lconst (v := (1 : Int64)) hx hb dX9_feed_2 (by decide) ?_
  refine lv_ldc2 (v := (4 : Int64)) hx hb hown (hts (.constantLong RX9 120 (4)) (by decide +kernel)) dX9_feed_3 ?_
  obtain ⟨o1, hco1, h⟩ := q_bind h
  refine q_calli hw (va_runS (As := [.long p2.toInt64, .long (1 : Int64), .long (4 : Int64)]) (rest := []) C0 (kX9_in hco1 _) (va_cwS 3 hts gX9_feed_X9_in rfl rfl rfl eX9_in ⟨(Nat.le_of_ble_eq_true rfl), (Nat.le_of_ble_eq_true rfl)⟩) ⟨q_blind, q_pre hw⟩ rfl rfl hl.1 rfl (lv_room (Nat.le_of_ble_eq_true rfl)) dX9_feed_6 ⟨Nat.zero_le _, Nat.zero_le _⟩) (fun H locs hw => ?_)
  refine lv_if_ne (tgt := 19) hx hb dX9_feed_9 (by decide) (fun c2 => ?_) (fun c2 => ?_)
  · replace h := q_f h c2
    refine lv_iload_n hx hb dX9_feed_19 rfl (lv_at hl 2 rfl) ?_
    refine lv_sipush (v := (250 : Int32)) hx hb dX9_feed_20 (by decide) ?_
    refine lv_aload_n hx hb dX9_feed_23 rfl (lv_at hl 0 rfl) ?_
    refine gt_X9_9 C0 hw hk iX9_feed_X9 (by decide +kernel) dX9_feed_24 ?_
    refine lv_isub hx hb dX9_feed_27 ?_
    refine lv_icmp_le (tgt := 38) hx hb dX9_feed_28 (by decide) (fun c3 => ?_) (fun c3 => ?_)
    · replace h := q_t h c3
      refine lv_iload_n hx hb dX9_feed_38 rfl (lv_at hl 2 rfl) ?_
      refine lv_iconst (v := (1 : Int32)) hx hb dX9_feed_39 (by decide) ?_
      refine lv_isub hx hb dX9_feed_40 ?_
      refine lv_istore_n (lv' := [(3, .int (p2 - (1 : Int32))), (0, .ref (ad k)), (1, .int p1), (2, .int p2)]) hx hb dX9_feed_41 rfl hl (by decide) rfl (fun ls hl => ?_)
      exact tX9_feed_c42 hk C0 hr hlk q_FU (p2 - (1 : Int32)) o1.2 _ _ _ hw (lv_sub hl [1, 2, 0] rfl) h
    · replace h := q_f h c3
      refine lv_aload_n hx hb dX9_feed_31 rfl (lv_at hl 0 rfl) ?_
      refine lv_bipush (v := (-6 : Int32)) hx hb dX9_feed_32 (by decide) ?_
      obtain ⟨o4, hco4, h⟩ := q_bind h
      refine q_calli hw (va_runV (As := [.int (-6 : Int32)]) (rest := []) C0 (kX9_refuse hk hco4 _) (cwV 1 hts gX9_feed_X9_refuse rfl rfl rfl eX9_refuse ⟨(Nat.le_of_ble_eq_true rfl), (Nat.le_of_ble_eq_true rfl)⟩) ⟨q_blind, q_recv hw (mN_0 hk) (mE_0 hk) rfl, q_pre hw⟩ rfl rfl hl.1 rfl (lv_room (Nat.le_of_ble_eq_true rfl)) dX9_feed_34 ⟨Nat.zero_le _, Nat.zero_le _⟩) (fun H locs hw => ?_)
      exact q_iret h C0 hr hlk hw dX9_feed_37
  · replace h := q_t h c2
    refine lv_aload_n hx hb dX9_feed_12 rfl (lv_at hl 0 rfl) ?_
    refine lv_bipush (v := (-2 : Int32)) hx hb dX9_feed_13 (by decide) ?_
    obtain ⟨o5, hco5, h⟩ := q_bind h
    refine q_calli hw (va_runV (As := [.int (-2 : Int32)]) (rest := []) C0 (kX9_refuse hk hco5 _) (cwV 1 hts gX9_feed_X9_refuse rfl rfl rfl eX9_refuse ⟨(Nat.le_of_ble_eq_true rfl), (Nat.le_of_ble_eq_true rfl)⟩) ⟨q_blind, q_recv hw (mN_0 hk) (mE_0 hk) rfl, q_pre hw⟩ rfl rfl hl.1 rfl (lv_room (Nat.le_of_ble_eq_true rfl)) dX9_feed_15 ⟨Nat.zero_le _, Nat.zero_le _⟩) (fun H locs hw => ?_)
    exact q_iret h C0 hr hlk hw dX9_feed_18
-- X9_wipe wipe()I
theorem iX9_wipe_X9 : ∀ w ∈ wsX90, w ∈ wsX9_wipe := by decide +kernel
set_option maxHeartbeats 4000000 in
set_option maxRecDepth 100000 in
theorem kX9_wipe {k : Nat} (hk : mB N k) {σ : q_M} {out : Int32 × q_M} (h : fX9_wipe k σ = some out) : q_Mi l (gM D cI cJ cR ad adK adV N) yX9_wipe wsX9_wipe { frames := 0, cells := 0, slots := 0, locals := 0 } [.ref (ad k)] σ out := by
  refine q_Mi_of (cc := cX9_wipe) (maxL := 2) (ret := (some .int)) (by decide) rfl (Nat.le_of_ble_eq_true rfl) ?_
  intro p e s m below meth c ls C0 hr hlk hl hw
  obtain ⟨hx, hb, hml, hown, hts⟩ := id C0
  replace hl : lv_has ls 2 [(0, .ref (ad k))] := hl
  unfold fX9_wipe at h
  refine lv_aload_n hx hb dX9_wipe_0 rfl (lv_at hl 0 rfl) ?_
  refine gt_X9_9 C0 hw hk iX9_wipe_X9 (by decide +kernel) dX9_wipe_1 ?_
  refine lv_istore_n (lv' := [(1, .int (σ.1 k 9)), (0, .ref (ad k))]) hx hb dX9_wipe_4 rfl hl (by decide) rfl (fun ls hl => ?_)
  refine lv_aload_n hx hb dX9_wipe_5 rfl (lv_at hl 1 rfl) ?_
  refine lv_iconst (v := (0 : Int32)) hx hb dX9_wipe_6 (by decide) ?_
  refine pt_X9_9 C0 hw hk iX9_wipe_X9 (by decide +kernel) dX9_wipe_7 (fun σ1 H locs e_σ1 hw => ?_)
  replace h := q_let_at e_σ1 h
  refine lv_iload_n hx hb dX9_wipe_10 rfl (lv_at hl 0 rfl) ?_
  exact q_iret h C0 hr hlk hw dX9_wipe_11
-- X9_isLetter isLetter(I)Z
set_option maxHeartbeats 4000000 in
set_option maxRecDepth 100000 in
theorem kX9_isLetter {p0 : Int32}  {σ : q_M} {out : Int32 × q_M} (h : fX9_isLetter p0 σ = some out) : q_Mi l (gM D cI cJ cR ad adK adV N) yX9_isLetter wsX9_isLetter { frames := 0, cells := 0, slots := 0, locals := 0 } [.int p0] σ out := by
  refine q_Mi_of (cc := cX9_isLetter) (maxL := 1) (ret := (some .boolean)) (by decide) rfl (Nat.le_of_ble_eq_true rfl) ?_
  intro p e s m below meth c ls C0 hr hlk hl hw
  obtain ⟨hx, hb, hml, hown, hts⟩ := id C0
  replace hl : lv_has ls 1 [(0, .int p0)] := hl
  unfold fX9_isLetter at h
  refine lv_iload_n hx hb dX9_isLetter_0 rfl (lv_at hl 0 rfl) ?_
  refine lv_bipush (v := (97 : Int32)) hx hb dX9_isLetter_1 (by decide) ?_
  refine lv_icmp_lt (tgt := 16) hx hb dX9_isLetter_3 (by decide) (fun c1 => ?_) (fun c1 => ?_)
  · replace h := q_t h c1
    refine lv_iconst (v := (0 : Int32)) hx hb dX9_isLetter_16 (by decide) ?_
    exact q_zret h C0 hr rfl hlk hw dX9_isLetter_17
  · replace h := q_f h c1
    refine lv_iload_n hx hb dX9_isLetter_6 rfl (lv_at hl 0 rfl) ?_
    refine lv_bipush (v := (122 : Int32)) hx hb dX9_isLetter_7 (by decide) ?_
    refine lv_icmp_gt (tgt := 16) hx hb dX9_isLetter_9 (by decide) (fun c2 => ?_) (fun c2 => ?_)
    · replace h := q_t h c2
      refine lv_iconst (v := (0 : Int32)) hx hb dX9_isLetter_16 (by decide) ?_
      exact q_zret h C0 hr rfl hlk hw dX9_isLetter_17
    · replace h := q_f h c2
      refine lv_iconst (v := (1 : Int32)) hx hb dX9_isLetter_12 (by decide) ?_
      refine lv_goto (tgt := 17) hx hb dX9_isLetter_13 (by decide) ?_
      exact q_zret h C0 hr rfl hlk hw dX9_isLetter_17
-- X9_isDigit isDigit(I)Z
set_option maxHeartbeats 4000000 in
set_option maxRecDepth 100000 in
theorem kX9_isDigit {p0 : Int32}  {σ : q_M} {out : Int32 × q_M} (h : fX9_isDigit p0 σ = some out) : q_Mi l (gM D cI cJ cR ad adK adV N) yX9_isDigit wsX9_isDigit { frames := 0, cells := 0, slots := 0, locals := 0 } [.int p0] σ out := by
  refine q_Mi_of (cc := cX9_isDigit) (maxL := 1) (ret := (some .boolean)) (by decide) rfl (Nat.le_of_ble_eq_true rfl) ?_
  intro p e s m below meth c ls C0 hr hlk hl hw
  obtain ⟨hx, hb, hml, hown, hts⟩ := id C0
  replace hl : lv_has ls 1 [(0, .int p0)] := hl
  unfold fX9_isDigit at h
  refine lv_iload_n hx hb dX9_isDigit_0 rfl (lv_at hl 0 rfl) ?_
  refine lv_bipush (v := (48 : Int32)) hx hb dX9_isDigit_1 (by decide) ?_
  refine lv_icmp_lt (tgt := 16) hx hb dX9_isDigit_3 (by decide) (fun c1 => ?_) (fun c1 => ?_)
  · replace h := q_t h c1
    refine lv_iconst (v := (0 : Int32)) hx hb dX9_isDigit_16 (by decide) ?_
    exact q_zret h C0 hr rfl hlk hw dX9_isDigit_17
  · replace h := q_f h c1
    refine lv_iload_n hx hb dX9_isDigit_6 rfl (lv_at hl 0 rfl) ?_
    refine lv_bipush (v := (57 : Int32)) hx hb dX9_isDigit_7 (by decide) ?_
    refine lv_icmp_gt (tgt := 16) hx hb dX9_isDigit_9 (by decide) (fun c2 => ?_) (fun c2 => ?_)
    · replace h := q_t h c2
      refine lv_iconst (v := (0 : Int32)) hx hb dX9_isDigit_16 (by decide) ?_
      exact q_zret h C0 hr rfl hlk hw dX9_isDigit_17
    · replace h := q_f h c2
      refine lv_iconst (v := (1 : Int32)) hx hb dX9_isDigit_12 (by decide) ?_
      refine lv_goto (tgt := 17) hx hb dX9_isDigit_13 (by decide) ?_
      exact q_zret h C0 hr rfl hlk hw dX9_isDigit_17
-- X9_look look()V
theorem iX9_look_X9 : ∀ w ∈ wsX90, w ∈ wsX9_look := by decide +kernel
theorem eX9_isDigit : yX9_isDigit.cls ≠ "java/lang/invoke/MethodHandle" ∧ yX9_isDigit.cls ≠ "java/lang/invoke/VarHandle" ∧ (parseMethodDescriptor yX9_isDigit.desc).map (fun d => d.parameters.length) = some 1 := by decide +kernel
theorem eX9_isLetter : yX9_isLetter.cls ≠ "java/lang/invoke/MethodHandle" ∧ yX9_isLetter.cls ≠ "java/lang/invoke/VarHandle" ∧ (parseMethodDescriptor yX9_isLetter.desc).map (fun d => d.parameters.length) = some 1 := by decide +kernel
set_option maxHeartbeats 4000000 in
set_option maxRecDepth 100000 in
theorem tX9_look_c90 {k : Nat} (hk : mB N k) (C0 : CallFix p m c cX9_look 1 s args wsX9_look RX9) (hr : meth.sig.returnType = none) (hlk : meth.locks = false) {out : q_M}  : ∀ n : Nat, ∀  (σ : q_M) (H : Heap) (locs : List Loc) (ls : Array Slot), q_H (gM D cI cJ cR ad adK adV N) (q_A (gM D cI cJ cR ad adK adV N) s.heap.size) s σ H locs → lv_has ls 1 [(0, .ref (ad k))] → fX9_look_c90 k n  σ = some out → W p l e { frames := 1, cells := 0, slots := 0, locals := 20 } s m args below meth c H locs 0 0 (MQ below (q_Rv (gM D cI cJ cR ad adK adV N) (q_A (gM D cI cJ cR ad adK adV N) s.heap.size) out) args s 0 0 (q_A (gM D cI cJ cR ad adK adV N) s.heap.size)) (F0 m 90 ls []) := by
  obtain ⟨hx, hb, hml, hown, hts⟩ := id C0
  intro n
  induction n with
  | zero =>
    intro  σ H locs ls  hw hl h
    cases (show (none : Option (q_M)) = some out from h)
  | succ n hrec90 =>
    intro  σ H locs ls  hw hl h
    replace h : fX9_look_c90b k (fX9_look_c90 k n)  σ = some out := h
    unfold fX9_look_c90b at h
    refine lv_aload_n hx hb dX9_look_90 rfl (lv_at hl 0 rfl) ?_
    refine gt_X9_20 C0 hw hk iX9_look_X9 (by decide +kernel) dX9_look_91 ?_
    refine lv_aload_n hx hb dX9_look_94 rfl (lv_at hl 0 rfl) ?_
    refine gt_X9_9 C0 hw hk iX9_look_X9 (by decide +kernel) dX9_look_95 ?_
    refine lv_icmp_ge (tgt := 267) hx hb dX9_look_98 (by decide) (fun c1 => ?_) (fun c1 => ?_)
    · replace h := q_t h c1
      exact q_vret h C0 hr hlk hw dX9_look_267
    · replace h := q_f h c1
      refine lv_aload_n hx hb dX9_look_101 rfl (lv_at hl 0 rfl) ?_
      refine gt_X9_8 C0 hw hk iX9_look_X9 (by decide +kernel) dX9_look_102 ?_
      refine lv_aload_n hx hb dX9_look_105 rfl (lv_at hl 0 rfl) ?_
      refine gt_X9_20 C0 hw hk iX9_look_X9 (by decide +kernel) dX9_look_106 ?_
      obtain ⟨b2, h⟩ := q_if h
      refine q_iald (t0 := 0) C0 hw (mN_9 hk) (mE_9 hk) rfl b2 dX9_look_109 ?_
      obtain ⟨o3, hco3, h⟩ := q_bind h
      refine q_calli hw (va_runS (As := [.int (σ.1 (k + 9) (σ.1 k 20).toNatClampNeg)]) (rest := []) C0 (kX9_isLetter hco3 _) (va_cwS 1 hts gX9_look_X9_isLetter rfl rfl rfl eX9_isLetter ⟨(Nat.le_of_ble_eq_true rfl), (Nat.le_of_ble_eq_true rfl)⟩) ⟨q_blind, q_pre hw⟩ rfl rfl hl.1 rfl (lv_room (Nat.le_of_ble_eq_true rfl)) dX9_look_110 ⟨Nat.zero_le _, Nat.zero_le _⟩) (fun H locs hw => ?_)
      refine lv_if_eq (tgt := 267) hx hb dX9_look_113 (by decide) (fun c4 => ?_) (fun c4 => ?_)
      · replace h := q_t h c4
        exact q_vret h C0 hr hlk hw dX9_look_267
      · replace h := q_f h c4
        refine lv_aload_n hx hb dX9_look_116 rfl (lv_at hl 0 rfl) ?_
        refine lv_dup hx hb dX9_look_117 rfl ?_
        refine gt_X9_20 C0 hw hk iX9_look_X9 (by decide +kernel) dX9_look_118 ?_
        refine lv_iconst (v := (1 : Int32)) hx hb dX9_look_121 (by decide) ?_
        refine lv_iadd hx hb dX9_look_122 ?_
        refine pt_X9_20 C0 hw hk iX9_look_X9 (by decide +kernel) dX9_look_123 (fun σ5 H locs e_σ5 hw => ?_)
        replace h := q_let_at e_σ5 h
        refine lv_goto (tgt := 90) hx hb dX9_look_126 (by decide) ?_
        exact hrec90 σ5 _ _ _ hw (lv_sub hl [0] rfl) h
set_option maxHeartbeats 4000000 in
set_option maxRecDepth 100000 in
theorem tX9_look_c149 {k : Nat} (hk : mB N k) (C0 : CallFix p m c cX9_look 1 s args wsX9_look RX9) (hr : meth.sig.returnType = none) (hlk : meth.locks = false) {out : q_M}  : ∀ n : Nat, ∀  (σ : q_M) (H : Heap) (locs : List Loc) (ls : Array Slot), q_H (gM D cI cJ cR ad adK adV N) (q_A (gM D cI cJ cR ad adK adV N) s.heap.size) s σ H locs → lv_has ls 1 [(0, .ref (ad k))] → fX9_look_c149 k n  σ = some out → W p l e { frames := 1, cells := 0, slots := 0, locals := 20 } s m args below meth c H locs 0 0 (MQ below (q_Rv (gM D cI cJ cR ad adK adV N) (q_A (gM D cI cJ cR ad adK adV N) s.heap.size) out) args s 0 0 (q_A (gM D cI cJ cR ad adK adV N) s.heap.size)) (F0 m 149 ls []) := by
  obtain ⟨hx, hb, hml, hown, hts⟩ := id C0
  intro n
  induction n with
  | zero =>
    intro  σ H locs ls  hw hl h
    cases (show (none : Option (q_M)) = some out from h)
  | succ n hrec149 =>
    intro  σ H locs ls  hw hl h
    replace h : fX9_look_c149b k (fX9_look_c149 k n)  σ = some out := h
    unfold fX9_look_c149b at h
    refine lv_aload_n hx hb dX9_look_149 rfl (lv_at hl 0 rfl) ?_
    refine gt_X9_20 C0 hw hk iX9_look_X9 (by decide +kernel) dX9_look_150 ?_
    refine lv_aload_n hx hb dX9_look_153 rfl (lv_at hl 0 rfl) ?_
    refine gt_X9_9 C0 hw hk iX9_look_X9 (by decide +kernel) dX9_look_154 ?_
    refine lv_icmp_ge (tgt := 267) hx hb dX9_look_157 (by decide) (fun c1 => ?_) (fun c1 => ?_)
    · replace h := q_t h c1
      exact q_vret h C0 hr hlk hw dX9_look_267
    · replace h := q_f h c1
      refine lv_aload_n hx hb dX9_look_160 rfl (lv_at hl 0 rfl) ?_
      refine gt_X9_8 C0 hw hk iX9_look_X9 (by decide +kernel) dX9_look_161 ?_
      refine lv_aload_n hx hb dX9_look_164 rfl (lv_at hl 0 rfl) ?_
      refine gt_X9_20 C0 hw hk iX9_look_X9 (by decide +kernel) dX9_look_165 ?_
      obtain ⟨b2, h⟩ := q_if h
      refine q_iald (t0 := 0) C0 hw (mN_9 hk) (mE_9 hk) rfl b2 dX9_look_168 ?_
      obtain ⟨o3, hco3, h⟩ := q_bind h
      refine q_calli hw (va_runS (As := [.int (σ.1 (k + 9) (σ.1 k 20).toNatClampNeg)]) (rest := []) C0 (kX9_isDigit hco3 _) (va_cwS 1 hts gX9_look_X9_isDigit rfl rfl rfl eX9_isDigit ⟨(Nat.le_of_ble_eq_true rfl), (Nat.le_of_ble_eq_true rfl)⟩) ⟨q_blind, q_pre hw⟩ rfl rfl hl.1 rfl (lv_room (Nat.le_of_ble_eq_true rfl)) dX9_look_169 ⟨Nat.zero_le _, Nat.zero_le _⟩) (fun H locs hw => ?_)
      refine lv_if_eq (tgt := 267) hx hb dX9_look_172 (by decide) (fun c4 => ?_) (fun c4 => ?_)
      · replace h := q_t h c4
        exact q_vret h C0 hr hlk hw dX9_look_267
      · replace h := q_f h c4
        refine lv_aload_n hx hb dX9_look_175 rfl (lv_at hl 0 rfl) ?_
        refine lv_aload_n hx hb dX9_look_176 rfl (lv_at hl 0 rfl) ?_
        refine gt_X9_20 C0 hw hk iX9_look_X9 (by decide +kernel) dX9_look_177 ?_
        refine lv_aload_n hx hb dX9_look_180 rfl (lv_at hl 0 rfl) ?_
        refine gt_X9_22 C0 hw hk iX9_look_X9 (by decide +kernel) dX9_look_181 ?_
        refine lv_isub hx hb dX9_look_184 ?_
        refine lv_iconst (v := (3 : Int32)) hx hb dX9_look_185 (by decide) ?_
        refine lv_icmp_ge (tgt := 215) hx hb dX9_look_186 (by decide) (fun c5 => ?_) (fun c5 => ?_)
        · replace h := q_t h c5
          refine lv_ldc2 (v := (100000 : Int64)) hx hb hown (hts (.constantLong RX9 203 (100000)) (by decide +kernel)) dX9_look_215 ?_
          refine pt_X9_23 C0 hw hk iX9_look_X9 (by decide +kernel) dX9_look_218 (fun σ6 H locs e_σ6 hw => ?_)
          replace h := q_let_at e_σ6 h
          refine lv_aload_n hx hb dX9_look_221 rfl (lv_at hl 0 rfl) ?_
          refine lv_dup hx hb dX9_look_222 rfl ?_
          refine gt_X9_20 C0 hw hk iX9_look_X9 (by decide +kernel) dX9_look_223 ?_
          refine lv_iconst (v := (1 : Int32)) hx hb dX9_look_226 (by decide) ?_
          refine lv_iadd hx hb dX9_look_227 ?_
          refine pt_X9_20 C0 hw hk iX9_look_X9 (by decide +kernel) dX9_look_228 (fun σ7 H locs e_σ7 hw => ?_)
          replace h := q_let_at e_σ7 h
          refine lv_goto (tgt := 149) hx hb dX9_look_231 (by decide) ?_
          exact hrec149 σ7 _ _ _ hw (lv_sub hl [0] rfl) h
        · replace h := q_f h c5
          refine lv_aload_n hx hb dX9_look_189 rfl (lv_at hl 0 rfl) ?_
          refine gt_X9_23 C0 hw hk iX9_look_X9 (by decide +kernel) dX9_look_190 ?_
          refine lv_ldc2 (v := (10 : Int64)) hx hb hown (hts (.constantLong RX9 199 (10)) (by decide +kernel)) dX9_look_193 ?_
          refine lv_lmul hx hb dX9_look_196 ?_
          refine lv_aload_n hx hb dX9_look_197 rfl (lv_at hl 0 rfl) ?_
          refine gt_X9_8 C0 hw hk iX9_look_X9 (by decide +kernel) dX9_look_198 ?_
          refine lv_aload_n hx hb dX9_look_201 rfl (lv_at hl 0 rfl) ?_
          refine gt_X9_20 C0 hw hk iX9_look_X9 (by decide +kernel) dX9_look_202 ?_
          obtain ⟨b8, h⟩ := q_if h
          refine q_iald (t0 := 0) C0 hw (mN_9 hk) (mE_9 hk) rfl b8 dX9_look_205 ?_
          refine lv_i2l hx hb dX9_look_206 rfl ?_
          refine lv_ladd hx hb dX9_look_207 ?_
          refine lv_ldc2 (v := (48 : Int64)) hx hb hown (hts (.constantLong RX9 201 (48)) (by decide +kernel)) dX9_look_208 ?_
          refine lv_lsub hx hb dX9_look_211 ?_
          refine lv_goto (tgt := 218) hx hb dX9_look_212 (by decide) ?_
          refine pt_X9_23 C0 hw hk iX9_look_X9 (by decide +kernel) dX9_look_218 (fun σ9 H locs e_σ9 hw => ?_)
          replace h := q_let_at e_σ9 h
          refine lv_aload_n hx hb dX9_look_221 rfl (lv_at hl 0 rfl) ?_
          refine lv_dup hx hb dX9_look_222 rfl ?_
          refine gt_X9_20 C0 hw hk iX9_look_X9 (by decide +kernel) dX9_look_223 ?_
          refine lv_iconst (v := (1 : Int32)) hx hb dX9_look_226 (by decide) ?_
          refine lv_iadd hx hb dX9_look_227 ?_
          refine pt_X9_20 C0 hw hk iX9_look_X9 (by decide +kernel) dX9_look_228 (fun σ10 H locs e_σ10 hw => ?_)
          replace h := q_let_at e_σ10 h
          refine lv_goto (tgt := 149) hx hb dX9_look_231 (by decide) ?_
          exact hrec149 σ10 _ _ _ hw (lv_sub hl [0] rfl) h
set_option maxHeartbeats 4000000 in
set_option maxRecDepth 100000 in
theorem tX9_look_c38 {k : Nat} (hk : mB N k) (C0 : CallFix p m c cX9_look 1 s args wsX9_look RX9) (hr : meth.sig.returnType = none) (hlk : meth.locks = false) {out : q_M}  : ∀  (σ : q_M) (H : Heap) (locs : List Loc) (ls : Array Slot), q_H (gM D cI cJ cR ad adK adV N) (q_A (gM D cI cJ cR ad adK adV N) s.heap.size) s σ H locs → lv_has ls 1 [(0, .ref (ad k))] → fX9_look_c38 k  σ = some out → W p l e { frames := 1, cells := 0, slots := 0, locals := 20 } s m args below meth c H locs 0 0 (MQ below (q_Rv (gM D cI cJ cR ad adK adV N) (q_A (gM D cI cJ cR ad adK adV N) s.heap.size) out) args s 0 0 (q_A (gM D cI cJ cR ad adK adV N) s.heap.size)) (F0 m 38 ls []) := by
  obtain ⟨hx, hb, hml, hown, hts⟩ := id C0
  intro  σ H locs ls  hw hl h
  unfold fX9_look_c38 at h
  refine lv_aload_n hx hb dX9_look_38 rfl (lv_at hl 0 rfl) ?_
  refine lv_aload_n hx hb dX9_look_39 rfl (lv_at hl 0 rfl) ?_
  refine gt_X9_20 C0 hw hk iX9_look_X9 (by decide +kernel) dX9_look_40 ?_
  refine pt_X9_22 C0 hw hk iX9_look_X9 (by decide +kernel) dX9_look_43 (fun σ1 H locs e_σ1 hw => ?_)
  replace h := q_let_at e_σ1 h
  refine lv_aload_n hx hb dX9_look_46 rfl (lv_at hl 0 rfl) ?_
  refine lv_lconst (v := (0 : Int64)) hx hb dX9_look_47 (by decide) ?_
  refine pt_X9_23 C0 hw hk iX9_look_X9 (by decide +kernel) dX9_look_48 (fun σ2 H locs e_σ2 hw => ?_)
  replace h := q_let_at e_σ2 h
  refine lv_aload_n hx hb dX9_look_51 rfl (lv_at hl 0 rfl) ?_
  refine gt_X9_20 C0 hw hk iX9_look_X9 (by decide +kernel) dX9_look_52 ?_
  refine lv_aload_n hx hb dX9_look_55 rfl (lv_at hl 0 rfl) ?_
  refine gt_X9_9 C0 hw hk iX9_look_X9 (by decide +kernel) dX9_look_56 ?_
  refine lv_icmp_ne (tgt := 70) hx hb dX9_look_59 (by decide) (fun c3 => ?_) (fun c3 => ?_)
  · replace h := q_f h c3
    refine lv_aload_n hx hb dX9_look_70 rfl (lv_at hl 0 rfl) ?_
    refine gt_X9_8 C0 hw hk iX9_look_X9 (by decide +kernel) dX9_look_71 ?_
    refine lv_aload_n hx hb dX9_look_74 rfl (lv_at hl 0 rfl) ?_
    refine gt_X9_20 C0 hw hk iX9_look_X9 (by decide +kernel) dX9_look_75 ?_
    obtain ⟨b4, h⟩ := q_if h
    refine q_iald (t0 := 0) C0 hw (mN_9 hk) (mE_9 hk) rfl b4 dX9_look_78 ?_
    obtain ⟨o5, hco5, h⟩ := q_bind h
    refine q_calli hw (va_runS (As := [.int (σ2.1 (k + 9) (σ2.1 k 20).toNatClampNeg)]) (rest := []) C0 (kX9_isLetter hco5 _) (va_cwS 1 hts gX9_look_X9_isLetter rfl rfl rfl eX9_isLetter ⟨(Nat.le_of_ble_eq_true rfl), (Nat.le_of_ble_eq_true rfl)⟩) ⟨q_blind, q_pre hw⟩ rfl rfl hl.1 rfl (lv_room (Nat.le_of_ble_eq_true rfl)) dX9_look_79 ⟨Nat.zero_le _, Nat.zero_le _⟩) (fun H locs hw => ?_)
    refine lv_if_eq (tgt := 129) hx hb dX9_look_82 (by decide) (fun c6 => ?_) (fun c6 => ?_)
    · replace h := q_t h c6
      refine lv_aload_n hx hb dX9_look_129 rfl (lv_at hl 0 rfl) ?_
      refine gt_X9_8 C0 hw hk iX9_look_X9 (by decide +kernel) dX9_look_130 ?_
      refine lv_aload_n hx hb dX9_look_133 rfl (lv_at hl 0 rfl) ?_
      refine gt_X9_20 C0 hw hk iX9_look_X9 (by decide +kernel) dX9_look_134 ?_
      obtain ⟨b7, h⟩ := q_if h
      refine q_iald (t0 := 0) C0 hw (mN_9 hk) (mE_9 hk) rfl b7 dX9_look_137 ?_
      obtain ⟨o8, hco8, h⟩ := q_bind h
      refine q_calli hw (va_runS (As := [.int (o5.2.1 (k + 9) (o5.2.1 k 20).toNatClampNeg)]) (rest := []) C0 (kX9_isDigit hco8 _) (va_cwS 1 hts gX9_look_X9_isDigit rfl rfl rfl eX9_isDigit ⟨(Nat.le_of_ble_eq_true rfl), (Nat.le_of_ble_eq_true rfl)⟩) ⟨q_blind, q_pre hw⟩ rfl rfl hl.1 rfl (lv_room (Nat.le_of_ble_eq_true rfl)) dX9_look_138 ⟨Nat.zero_le _, Nat.zero_le _⟩) (fun H locs hw => ?_)
      refine lv_if_eq (tgt := 234) hx hb dX9_look_141 (by decide) (fun c9 => ?_) (fun c9 => ?_)
      · replace h := q_t h c9
        refine lv_aload_n hx hb dX9_look_234 rfl (lv_at hl 0 rfl) ?_
        refine lv_aload_n hx hb dX9_look_235 rfl (lv_at hl 0 rfl) ?_
        refine gt_X9_8 C0 hw hk iX9_look_X9 (by decide +kernel) dX9_look_236 ?_
        refine lv_aload_n hx hb dX9_look_239 rfl (lv_at hl 0 rfl) ?_
        refine gt_X9_20 C0 hw hk iX9_look_X9 (by decide +kernel) dX9_look_240 ?_
        obtain ⟨b10, h⟩ := q_if h
        refine q_iald (t0 := 0) C0 hw (mN_9 hk) (mE_9 hk) rfl b10 dX9_look_243 ?_
        refine lv_bipush (v := (59 : Int32)) hx hb dX9_look_244 (by decide) ?_
        refine lv_icmp_ne (tgt := 253) hx hb dX9_look_246 (by decide) (fun c11 => ?_) (fun c11 => ?_)
        · replace h := q_f h c11
          refine lv_iconst (v := (4 : Int32)) hx hb dX9_look_253 (by decide) ?_
          refine pt_X9_21 C0 hw hk iX9_look_X9 (by decide +kernel) dX9_look_254 (fun σ12 H locs e_σ12 hw => ?_)
          replace h := q_let_at e_σ12 h
          refine lv_aload_n hx hb dX9_look_257 rfl (lv_at hl 0 rfl) ?_
          refine lv_dup hx hb dX9_look_258 rfl ?_
          refine gt_X9_20 C0 hw hk iX9_look_X9 (by decide +kernel) dX9_look_259 ?_
          refine lv_iconst (v := (1 : Int32)) hx hb dX9_look_262 (by decide) ?_
          refine lv_iadd hx hb dX9_look_263 ?_
          refine pt_X9_20 C0 hw hk iX9_look_X9 (by decide +kernel) dX9_look_264 (fun σ13 H locs e_σ13 hw => ?_)
          replace h := q_let_at e_σ13 h
          exact q_vret h C0 hr hlk hw dX9_look_267
        · replace h := q_t h c11
          refine lv_iconst (v := (3 : Int32)) hx hb dX9_look_249 (by decide) ?_
          refine lv_goto (tgt := 254) hx hb dX9_look_250 (by decide) ?_
          refine pt_X9_21 C0 hw hk iX9_look_X9 (by decide +kernel) dX9_look_254 (fun σ14 H locs e_σ14 hw => ?_)
          replace h := q_let_at e_σ14 h
          refine lv_aload_n hx hb dX9_look_257 rfl (lv_at hl 0 rfl) ?_
          refine lv_dup hx hb dX9_look_258 rfl ?_
          refine gt_X9_20 C0 hw hk iX9_look_X9 (by decide +kernel) dX9_look_259 ?_
          refine lv_iconst (v := (1 : Int32)) hx hb dX9_look_262 (by decide) ?_
          refine lv_iadd hx hb dX9_look_263 ?_
          refine pt_X9_20 C0 hw hk iX9_look_X9 (by decide +kernel) dX9_look_264 (fun σ15 H locs e_σ15 hw => ?_)
          replace h := q_let_at e_σ15 h
          exact q_vret h C0 hr hlk hw dX9_look_267
      · replace h := q_f h c9
        refine lv_aload_n hx hb dX9_look_144 rfl (lv_at hl 0 rfl) ?_
        refine lv_iconst (v := (2 : Int32)) hx hb dX9_look_145 (by decide) ?_
        refine pt_X9_21 C0 hw hk iX9_look_X9 (by decide +kernel) dX9_look_146 (fun σ16 H locs e_σ16 hw => ?_)
        replace h := q_let_at e_σ16 h
        exact tX9_look_c149 hk C0 hr hlk q_FU σ16 _ _ _ hw (lv_sub hl [0] rfl) h
    · replace h := q_f h c6
      refine lv_aload_n hx hb dX9_look_85 rfl (lv_at hl 0 rfl) ?_
      refine lv_iconst (v := (1 : Int32)) hx hb dX9_look_86 (by decide) ?_
      refine pt_X9_21 C0 hw hk iX9_look_X9 (by decide +kernel) dX9_look_87 (fun σ17 H locs e_σ17 hw => ?_)
      replace h := q_let_at e_σ17 h
      exact tX9_look_c90 hk C0 hr hlk q_FU σ17 _ _ _ hw (lv_sub hl [0] rfl) h
  · replace h := q_t h c3
    refine lv_aload_n hx hb dX9_look_62 rfl (lv_at hl 0 rfl) ?_
    refine lv_iconst (v := (0 : Int32)) hx hb dX9_look_63 (by decide) ?_
    refine pt_X9_21 C0 hw hk iX9_look_X9 (by decide +kernel) dX9_look_64 (fun σ18 H locs e_σ18 hw => ?_)
    replace h := q_let_at e_σ18 h
    refine lv_goto (tgt := 267) hx hb dX9_look_67 (by decide) ?_
    exact q_vret h C0 hr hlk hw dX9_look_267
set_option maxHeartbeats 4000000 in
set_option maxRecDepth 100000 in
theorem tX9_look_c0 {k : Nat} (hk : mB N k) (C0 : CallFix p m c cX9_look 1 s args wsX9_look RX9) (hr : meth.sig.returnType = none) (hlk : meth.locks = false) {out : q_M}  : ∀ n : Nat, ∀  (σ : q_M) (H : Heap) (locs : List Loc) (ls : Array Slot), q_H (gM D cI cJ cR ad adK adV N) (q_A (gM D cI cJ cR ad adK adV N) s.heap.size) s σ H locs → lv_has ls 1 [(0, .ref (ad k))] → fX9_look_c0 k n  σ = some out → W p l e { frames := 1, cells := 0, slots := 0, locals := 20 } s m args below meth c H locs 0 0 (MQ below (q_Rv (gM D cI cJ cR ad adK adV N) (q_A (gM D cI cJ cR ad adK adV N) s.heap.size) out) args s 0 0 (q_A (gM D cI cJ cR ad adK adV N) s.heap.size)) (F0 m 0 ls []) := by
  obtain ⟨hx, hb, hml, hown, hts⟩ := id C0
  intro n
  induction n with
  | zero =>
    intro  σ H locs ls  hw hl h
    cases (show (none : Option (q_M)) = some out from h)
  | succ n hrec0 =>
    intro  σ H locs ls  hw hl h
    replace h : fX9_look_c0b k (fX9_look_c0 k n)  σ = some out := h
    unfold fX9_look_c0b at h
    refine lv_aload_n hx hb dX9_look_0 rfl (lv_at hl 0 rfl) ?_
    refine gt_X9_20 C0 hw hk iX9_look_X9 (by decide +kernel) dX9_look_1 ?_
    refine lv_aload_n hx hb dX9_look_4 rfl (lv_at hl 0 rfl) ?_
    refine gt_X9_9 C0 hw hk iX9_look_X9 (by decide +kernel) dX9_look_5 ?_
    refine lv_icmp_ge (tgt := 38) hx hb dX9_look_8 (by decide) (fun c1 => ?_) (fun c1 => ?_)
    · replace h := q_t h c1
      exact tX9_look_c38 hk C0 hr hlk σ _ _ _ hw (lv_sub hl [0] rfl) h
    · replace h := q_f h c1
      refine lv_aload_n hx hb dX9_look_11 rfl (lv_at hl 0 rfl) ?_
      refine gt_X9_8 C0 hw hk iX9_look_X9 (by decide +kernel) dX9_look_12 ?_
      refine lv_aload_n hx hb dX9_look_15 rfl (lv_at hl 0 rfl) ?_
      refine gt_X9_20 C0 hw hk iX9_look_X9 (by decide +kernel) dX9_look_16 ?_
      obtain ⟨b2, h⟩ := q_if h
      refine q_iald (t0 := 0) C0 hw (mN_9 hk) (mE_9 hk) rfl b2 dX9_look_19 ?_
      refine lv_bipush (v := (32 : Int32)) hx hb dX9_look_20 (by decide) ?_
      refine lv_icmp_ne (tgt := 38) hx hb dX9_look_22 (by decide) (fun c3 => ?_) (fun c3 => ?_)
      · replace h := q_f h c3
        exact tX9_look_c38 hk C0 hr hlk σ _ _ _ hw (lv_sub hl [0] rfl) h
      · replace h := q_t h c3
        refine lv_aload_n hx hb dX9_look_25 rfl (lv_at hl 0 rfl) ?_
        refine lv_dup hx hb dX9_look_26 rfl ?_
        refine gt_X9_20 C0 hw hk iX9_look_X9 (by decide +kernel) dX9_look_27 ?_
        refine lv_iconst (v := (1 : Int32)) hx hb dX9_look_30 (by decide) ?_
        refine lv_iadd hx hb dX9_look_31 ?_
        refine pt_X9_20 C0 hw hk iX9_look_X9 (by decide +kernel) dX9_look_32 (fun σ4 H locs e_σ4 hw => ?_)
        replace h := q_let_at e_σ4 h
        refine lv_goto (tgt := 0) hx hb dX9_look_35 (by decide) ?_
        exact hrec0 σ4 _ _ _ hw (lv_sub hl [0] rfl) h
set_option maxHeartbeats 4000000 in
set_option maxRecDepth 100000 in
theorem kX9_look {k : Nat} (hk : mB N k) {σ : q_M} {out : q_M} (h : fX9_look k σ = some out) : q_Mv l (gM D cI cJ cR ad adK adV N) yX9_look wsX9_look { frames := 1, cells := 0, slots := 0, locals := 20 } [.ref (ad k)] σ out := by
  refine q_Mv_of (cc := cX9_look) (maxL := 1) (ret := none) (by decide) rfl (Nat.le_of_ble_eq_true rfl) ?_
  intro p e s m below meth c ls C0 hr hlk hl hw
  obtain ⟨hx, hb, hml, hown, hts⟩ := id C0
  replace hl : lv_has ls 1 [(0, .ref (ad k))] := hl
  unfold fX9_look at h
  exact tX9_look_c0 hk C0 hr hlk q_FU σ _ _ _ hw (lv_sub hl [0] rfl) h
-- X9_isWrong isWrong()Z
theorem iX9_isWrong_X9 : ∀ w ∈ wsX90, w ∈ wsX9_isWrong := by decide +kernel
set_option maxHeartbeats 4000000 in
set_option maxRecDepth 100000 in
theorem kX9_isWrong {k : Nat} (hk : mB N k) {σ : q_M} {out : Int32 × q_M} (h : fX9_isWrong k σ = some out) : q_Mi l (gM D cI cJ cR ad adK adV N) yX9_isWrong wsX9_isWrong { frames := 0, cells := 0, slots := 0, locals := 0 } [.ref (ad k)] σ out := by
  refine q_Mi_of (cc := cX9_isWrong) (maxL := 1) (ret := (some .boolean)) (by decide) rfl (Nat.le_of_ble_eq_true rfl) ?_
  intro p e s m below meth c ls C0 hr hlk hl hw
  obtain ⟨hx, hb, hml, hown, hts⟩ := id C0
  replace hl : lv_has ls 1 [(0, .ref (ad k))] := hl
  unfold fX9_isWrong at h
  refine lv_aload_n hx hb dX9_isWrong_0 rfl (lv_at hl 0 rfl) ?_
  refine lv_aload_n hx hb dX9_isWrong_1 rfl (lv_at hl 0 rfl) ?_
  refine gt_X9_22 C0 hw hk iX9_isWrong_X9 (by decide +kernel) dX9_isWrong_2 ?_
  refine pt_X9_24 C0 hw hk iX9_isWrong_X9 (by decide +kernel) dX9_isWrong_5 (fun σ1 H locs e_σ1 hw => ?_)
  replace h := q_let_at e_σ1 h
  refine lv_iconst (v := (0 : Int32)) hx hb dX9_isWrong_8 (by decide) ?_
  exact q_zret h C0 hr rfl hlk hw dX9_isWrong_9
-- X9_isWord isWord(Ljava/lang/String;)Z
theorem iX9_isWord_X9 : ∀ w ∈ wsX90, w ∈ wsX9_isWord := by decide +kernel
set_option maxHeartbeats 4000000 in
set_option maxRecDepth 100000 in
theorem tX9_isWord_c28 {k : Nat} {w : Nat} (hk : mB N k) (hw0 : w < 9) (C0 : CallFix p m c cX9_isWord 3 s args wsX9_isWord RX9) (hr : meth.sig.returnType = (some .boolean)) (hlk : meth.locks = false) {out : Int32 × q_M}  : ∀ n : Nat, ∀ (v2 : Int32) (σ : q_M) (H : Heap) (locs : List Loc) (ls : Array Slot), q_H (gM D cI cJ cR ad adK adV N) (q_A (gM D cI cJ cR ad adK adV N) s.heap.size) s σ H locs → lv_has ls 3 [(0, .ref (ad k)), (1, .ref (adK w)), (2, .int v2)] → fX9_isWord_c28 k w n v2 σ = some out → W p l e { frames := 4, cells := 0, slots := 0, locals := 85 } s m args below meth c H locs 0 0 (MQ below (q_Ri (gM D cI cJ cR ad adK adV N) (q_A (gM D cI cJ cR ad adK adV N) s.heap.size) out) args s 0 0 (q_A (gM D cI cJ cR ad adK adV N) s.heap.size)) (F0 m 28 ls []) := by
  obtain ⟨hx, hb, hml, hown, hts⟩ := id C0
  intro n
  induction n with
  | zero =>
    intro v2 σ H locs ls  hw hl h
    cases (show (none : Option (Int32 × q_M)) = some out from h)
  | succ n hrec28 =>
    intro v2 σ H locs ls  hw hl h
    replace h : fX9_isWord_c28b k w (fX9_isWord_c28 k w n) v2 σ = some out := h
    unfold fX9_isWord_c28b at h
    refine lv_iload_n hx hb dX9_isWord_28 rfl (lv_at hl 2 rfl) ?_
    refine lv_aload_n hx hb dX9_isWord_29 rfl (lv_at hl 1 rfl) ?_
    obtain ⟨o1, hco1, h⟩ := q_bind h
    refine q_calli hw (va_runV (As := []) (rest := [.int v2]) C0 (kJ0_length_8abf5 hw0 hco1 _) (cwV 0 hts gX9_isWord_J0_length_8abf5 rfl rfl rfl eJ0_length_8abf5 ⟨(Nat.le_of_ble_eq_true rfl), (Nat.le_of_ble_eq_true rfl)⟩) ⟨q_blind, vk_recv hw.2.2.2.2.2.2.1 hw0 hw.2.2.2.1, q_pre hw⟩ rfl rfl hl.1 rfl (lv_room (Nat.le_of_ble_eq_true rfl)) dX9_isWord_30 ⟨Nat.zero_le _, Nat.zero_le _⟩) (fun H locs hw => ?_)
    refine lv_icmp_ge (tgt := 63) hx hb dX9_isWord_33 (by decide) (fun c2 => ?_) (fun c2 => ?_)
    · replace h := q_t h c2
      refine lv_iconst (v := (1 : Int32)) hx hb dX9_isWord_63 (by decide) ?_
      exact q_zret h C0 hr rfl hlk hw dX9_isWord_64
    · replace h := q_f h c2
      refine lv_aload_n hx hb dX9_isWord_36 rfl (lv_at hl 0 rfl) ?_
      refine gt_X9_8 C0 hw hk iX9_isWord_X9 (by decide +kernel) dX9_isWord_37 ?_
      refine lv_aload_n hx hb dX9_isWord_40 rfl (lv_at hl 0 rfl) ?_
      refine gt_X9_22 C0 hw hk iX9_isWord_X9 (by decide +kernel) dX9_isWord_41 ?_
      refine lv_iload_n hx hb dX9_isWord_44 rfl (lv_at hl 2 rfl) ?_
      refine lv_iadd hx hb dX9_isWord_45 ?_
      obtain ⟨b3, h⟩ := q_if h
      refine q_iald (t0 := 0) C0 hw (mN_9 hk) (mE_9 hk) rfl b3 dX9_isWord_46 ?_
      refine lv_aload_n hx hb dX9_isWord_47 rfl (lv_at hl 1 rfl) ?_
      refine lv_iload_n hx hb dX9_isWord_48 rfl (lv_at hl 2 rfl) ?_
      obtain ⟨o4, hco4, h⟩ := q_bind h
      refine q_calli hw (va_runV (As := [.int v2]) (rest := [.int (o1.2.1 (k + 9) ((o1.2.1 k 22) + v2).toNatClampNeg)]) C0 (kJ0_charAt_5068e hw0 hco4 _) (cwV 1 hts gX9_isWord_J0_charAt_5068e rfl rfl rfl eJ0_charAt_5068e ⟨(Nat.le_of_ble_eq_true rfl), (Nat.le_of_ble_eq_true rfl)⟩) ⟨q_blind, vk_recv hw.2.2.2.2.2.2.1 hw0 hw.2.2.2.1, q_pre hw⟩ rfl rfl hl.1 rfl (lv_room (Nat.le_of_ble_eq_true rfl)) dX9_isWord_49 ⟨Nat.zero_le _, Nat.zero_le _⟩) (fun H locs hw => ?_)
      refine lv_icmp_eq (tgt := 57) hx hb dX9_isWord_52 (by decide) (fun c5 => ?_) (fun c5 => ?_)
      · replace h := q_t h c5
        refine lv_iinc (v := (v2 + (1 : Int32))) (lv' := [(2, .int (v2 + (1 : Int32))), (0, .ref (ad k)), (1, .ref (adK w))]) hx hb dX9_isWord_57 hl (k := 2) rfl rfl (by decide) rfl (fun ls hl => ?_)
        refine lv_goto (tgt := 28) hx hb dX9_isWord_60 (by decide) ?_
        exact hrec28 (v2 + (1 : Int32)) o4.2 _ _ _ hw (lv_sub hl [1, 2, 0] rfl) h
      · replace h := q_f h c5
        refine lv_iconst (v := (0 : Int32)) hx hb dX9_isWord_55 (by decide) ?_
        exact q_zret h C0 hr rfl hlk hw dX9_isWord_56
set_option maxHeartbeats 4000000 in
set_option maxRecDepth 100000 in
theorem kX9_isWord {k : Nat} {w : Nat} (hk : mB N k) (hw0 : w < 9) {σ : q_M} {out : Int32 × q_M} (h : fX9_isWord k w σ = some out) : q_Mi l (gM D cI cJ cR ad adK adV N) yX9_isWord wsX9_isWord { frames := 4, cells := 0, slots := 0, locals := 85 } [.ref (ad k), .ref (adK w)] σ out := by
  refine q_Mi_of (cc := cX9_isWord) (maxL := 3) (ret := (some .boolean)) (by decide) rfl (Nat.le_of_ble_eq_true rfl) ?_
  intro p e s m below meth c ls C0 hr hlk hl hw
  obtain ⟨hx, hb, hml, hown, hts⟩ := id C0
  replace hl : lv_has ls 3 [(0, .ref (ad k)), (1, .ref (adK w))] := hl
  unfold fX9_isWord at h
  refine lv_aload_n hx hb dX9_isWord_0 rfl (lv_at hl 0 rfl) ?_
  refine gt_X9_21 C0 hw hk iX9_isWord_X9 (by decide +kernel) dX9_isWord_1 ?_
  refine lv_iconst (v := (1 : Int32)) hx hb dX9_isWord_4 (by decide) ?_
  refine lv_icmp_ne (tgt := 24) hx hb dX9_isWord_5 (by decide) (fun c1 => ?_) (fun c1 => ?_)
  · replace h := q_f h c1
    refine lv_iconst (v := (0 : Int32)) hx hb dX9_isWord_24 (by decide) ?_
    exact q_zret h C0 hr rfl hlk hw dX9_isWord_25
  · replace h := q_t h c1
    refine lv_aload_n hx hb dX9_isWord_8 rfl (lv_at hl 0 rfl) ?_
    refine gt_X9_20 C0 hw hk iX9_isWord_X9 (by decide +kernel) dX9_isWord_9 ?_
    refine lv_aload_n hx hb dX9_isWord_12 rfl (lv_at hl 0 rfl) ?_
    refine gt_X9_22 C0 hw hk iX9_isWord_X9 (by decide +kernel) dX9_isWord_13 ?_
    refine lv_isub hx hb dX9_isWord_16 ?_
    refine lv_aload_n hx hb dX9_isWord_17 rfl (lv_at hl 1 rfl) ?_
    obtain ⟨o2, hco2, h⟩ := q_bind h
    refine q_calli hw (va_runV (As := []) (rest := [.int ((σ.1 k 20) - (σ.1 k 22))]) C0 (kJ0_length_8abf5 hw0 hco2 _) (cwV 0 hts gX9_isWord_J0_length_8abf5 rfl rfl rfl eJ0_length_8abf5 ⟨(Nat.le_of_ble_eq_true rfl), (Nat.le_of_ble_eq_true rfl)⟩) ⟨q_blind, vk_recv hw.2.2.2.2.2.2.1 hw0 hw.2.2.2.1, q_pre hw⟩ rfl rfl hl.1 rfl (lv_room (Nat.le_of_ble_eq_true rfl)) dX9_isWord_18 ⟨Nat.zero_le _, Nat.zero_le _⟩) (fun H locs hw => ?_)
    refine lv_icmp_eq (tgt := 26) hx hb dX9_isWord_21 (by decide) (fun c3 => ?_) (fun c3 => ?_)
    · replace h := q_t h c3
      refine lv_iconst (v := (0 : Int32)) hx hb dX9_isWord_26 (by decide) ?_
      refine lv_istore_n (lv' := [(2, .int (0 : Int32)), (0, .ref (ad k)), (1, .ref (adK w))]) hx hb dX9_isWord_27 rfl hl (by decide) rfl (fun ls hl => ?_)
      exact tX9_isWord_c28 hk hw0 C0 hr hlk q_FU (0 : Int32) o2.2 _ _ _ hw (lv_sub hl [1, 2, 0] rfl) h
    · replace h := q_f h c3
      refine lv_iconst (v := (0 : Int32)) hx hb dX9_isWord_24 (by decide) ?_
      exact q_zret h C0 hr rfl hlk hw dX9_isWord_25
-- X9_number number(III)Z
theorem iX9_number_X9 : ∀ w ∈ wsX90, w ∈ wsX9_number := by decide +kernel
theorem eX9_isWrong : yX9_isWrong.cls = RX9 ∧ yX9_isWrong.cls ≠ "java/lang/invoke/MethodHandle" ∧ yX9_isWrong.cls ≠ "java/lang/invoke/VarHandle" ∧ (parseMethodDescriptor yX9_isWrong.desc).map (fun d => d.parameters.length) = some 0 := by decide +kernel
theorem eX9_look : yX9_look.cls = RX9 ∧ yX9_look.cls ≠ "java/lang/invoke/MethodHandle" ∧ yX9_look.cls ≠ "java/lang/invoke/VarHandle" ∧ (parseMethodDescriptor yX9_look.desc).map (fun d => d.parameters.length) = some 0 := by decide +kernel
set_option maxHeartbeats 4000000 in
set_option maxRecDepth 100000 in
theorem kX9_number {k : Nat} {p1 : Int32} {p2 : Int32} {p3 : Int32} (hk : mB N k) {σ : q_M} {out : Int32 × q_M} (h : fX9_number k p1 p2 p3 σ = some out) : q_Mi l (gM D cI cJ cR ad adK adV N) yX9_number wsX9_number { frames := 2, cells := 0, slots := 0, locals := 40 } [.ref (ad k), .int p1, .int p2, .int p3] σ out := by
  refine q_Mi_of (cc := cX9_number) (maxL := 4) (ret := (some .boolean)) (by decide) rfl (Nat.le_of_ble_eq_true rfl) ?_
  intro p e s m below meth c ls C0 hr hlk hl hw
  obtain ⟨hx, hb, hml, hown, hts⟩ := id C0
  replace hl : lv_has ls 4 [(0, .ref (ad k)), (1, .int p1), (2, .int p2), (3, .int p3)] := hl
  unfold fX9_number at h
  refine lv_aload_n hx hb dX9_number_0 rfl (lv_at hl 0 rfl) ?_
  refine gt_X9_21 C0 hw hk iX9_number_X9 (by decide +kernel) dX9_number_1 ?_
  refine lv_iconst (v := (2 : Int32)) hx hb dX9_number_4 (by decide) ?_
  refine lv_icmp_ne (tgt := 22) hx hb dX9_number_5 (by decide) (fun c1 => ?_) (fun c1 => ?_)
  · replace h := q_f h c1
    refine lv_aload_n hx hb dX9_number_22 rfl (lv_at hl 0 rfl) ?_
    obtain ⟨o2, hco2, h⟩ := q_bind h
    refine q_calli hw (va_runV (As := []) (rest := []) C0 (kX9_isWrong hk hco2 _) (cwV 0 hts gX9_number_X9_isWrong rfl rfl rfl eX9_isWrong ⟨(Nat.le_of_ble_eq_true rfl), (Nat.le_of_ble_eq_true rfl)⟩) ⟨q_blind, q_recv hw (mN_0 hk) (mE_0 hk) rfl, q_pre hw⟩ rfl rfl hl.1 rfl (lv_room (Nat.le_of_ble_eq_true rfl)) dX9_number_23 ⟨Nat.zero_le _, Nat.zero_le _⟩) (fun H locs hw => ?_)
    obtain ⟨b3, h⟩ := q_if h
    exact q_zret h C0 hr (q_nz b3) hlk hw dX9_number_26
  · replace h := q_t h c1
    refine lv_aload_n hx hb dX9_number_8 rfl (lv_at hl 0 rfl) ?_
    refine gt_X9_23 C0 hw hk iX9_number_X9 (by decide +kernel) dX9_number_9 ?_
    refine lv_iload_n hx hb dX9_number_12 rfl (lv_at hl 2 rfl) ?_
    refine lv_i2l hx hb dX9_number_13 rfl ?_
    refine lv_iload_n hx hb dX9_number_14 rfl (lv_at hl 3 rfl) ?_
    refine lv_i2l hx hb dX9_number_15 rfl ?_
    obtain ⟨o4, hco4, h⟩ := q_bind h
    refine q_calli hw (va_runS (As := [.long (σ.2 k 23), .long p2.toInt64, .long p3.toInt64]) (rest := []) C0 (kX9_in hco4 _) (va_cwS 3 hts gX9_number_X9_in rfl rfl rfl eX9_in ⟨(Nat.le_of_ble_eq_true rfl), (Nat.le_of_ble_eq_true rfl)⟩) ⟨q_blind, q_pre hw⟩ rfl rfl hl.1 rfl (lv_room (Nat.le_of_ble_eq_true rfl)) dX9_number_16 ⟨Nat.zero_le _, Nat.zero_le _⟩) (fun H locs hw => ?_)
    refine lv_if_ne (tgt := 27) hx hb dX9_number_19 (by decide) (fun c5 => ?_) (fun c5 => ?_)
    · replace h := q_f h c5
      refine lv_aload_n hx hb dX9_number_27 rfl (lv_at hl 0 rfl) ?_
      refine gt_X9_25 C0 hw hk iX9_number_X9 (by decide +kernel) dX9_number_28 ?_
      refine lv_iload_n hx hb dX9_number_31 rfl (lv_at hl 1 rfl) ?_
      refine lv_aload_n hx hb dX9_number_32 rfl (lv_at hl 0 rfl) ?_
      refine gt_X9_23 C0 hw hk iX9_number_X9 (by decide +kernel) dX9_number_33 ?_
      refine lv_l2i hx hb dX9_number_36 rfl ?_
      obtain ⟨b6, h⟩ := q_if h
      refine q_iast (t0 := 0) C0 hw (mN_13 hk) (mE_13 hk) rfl b6 dX9_number_37 (fun σ7 H locs e_σ7 hw => ?_)
      replace h := q_let_at e_σ7 h
      refine lv_aload_n hx hb dX9_number_38 rfl (lv_at hl 0 rfl) ?_
      obtain ⟨o8, hco8, h⟩ := q_bind h
      refine q_callv hw (va_runV (As := []) (rest := []) C0 (kX9_look hk hco8 _) (cwV 0 hts gX9_number_X9_look rfl rfl rfl eX9_look ⟨(Nat.le_of_ble_eq_true rfl), (Nat.le_of_ble_eq_true rfl)⟩) ⟨q_blind, q_recv hw (mN_0 hk) (mE_0 hk) rfl, q_pre hw⟩ rfl rfl hl.1 rfl (lv_room (Nat.le_of_ble_eq_true rfl)) dX9_number_39 ⟨Nat.zero_le _, Nat.zero_le _⟩) (fun H locs hw => ?_)
      refine lv_iconst (v := (1 : Int32)) hx hb dX9_number_42 (by decide) ?_
      exact q_zret h C0 hr rfl hlk hw dX9_number_43
    · replace h := q_t h c5
      refine lv_aload_n hx hb dX9_number_22 rfl (lv_at hl 0 rfl) ?_
      obtain ⟨o9, hco9, h⟩ := q_bind h
      refine q_calli hw (va_runV (As := []) (rest := []) C0 (kX9_isWrong hk hco9 _) (cwV 0 hts gX9_number_X9_isWrong rfl rfl rfl eX9_isWrong ⟨(Nat.le_of_ble_eq_true rfl), (Nat.le_of_ble_eq_true rfl)⟩) ⟨q_blind, q_recv hw (mN_0 hk) (mE_0 hk) rfl, q_pre hw⟩ rfl rfl hl.1 rfl (lv_room (Nat.le_of_ble_eq_true rfl)) dX9_number_23 ⟨Nat.zero_le _, Nat.zero_le _⟩) (fun H locs hw => ?_)
      obtain ⟨b10, h⟩ := q_if h
      exact q_zret h C0 hr (q_nz b10) hlk hw dX9_number_26
-- X9_tells tells(Ljava/lang/String;III)Z
theorem eX9_isWord : yX9_isWord.cls = RX9 ∧ yX9_isWord.cls ≠ "java/lang/invoke/MethodHandle" ∧ yX9_isWord.cls ≠ "java/lang/invoke/VarHandle" ∧ (parseMethodDescriptor yX9_isWord.desc).map (fun d => d.parameters.length) = some 1 := by decide +kernel
theorem eX9_number : yX9_number.cls = RX9 ∧ yX9_number.cls ≠ "java/lang/invoke/MethodHandle" ∧ yX9_number.cls ≠ "java/lang/invoke/VarHandle" ∧ (parseMethodDescriptor yX9_number.desc).map (fun d => d.parameters.length) = some 3 := by decide +kernel
set_option maxHeartbeats 4000000 in
set_option maxRecDepth 100000 in
theorem kX9_tells {k : Nat} {w : Nat} {p2 : Int32} {p3 : Int32} {p4 : Int32} (hk : mB N k) (hw0 : w < 9) {σ : q_M} {out : Int32 × q_M} (h : fX9_tells k w p2 p3 p4 σ = some out) : q_Mi l (gM D cI cJ cR ad adK adV N) yX9_tells wsX9_tells { frames := 5, cells := 0, slots := 0, locals := 107 } [.ref (ad k), .ref (adK w), .int p2, .int p3, .int p4] σ out := by
  refine q_Mi_of (cc := cX9_tells) (maxL := 5) (ret := (some .boolean)) (by decide) rfl (Nat.le_of_ble_eq_true rfl) ?_
  intro p e s m below meth c ls C0 hr hlk hl hw
  obtain ⟨hx, hb, hml, hown, hts⟩ := id C0
  replace hl : lv_has ls 5 [(0, .ref (ad k)), (1, .ref (adK w)), (2, .int p2), (3, .int p3), (4, .int p4)] := hl
  unfold fX9_tells at h
  refine lv_aload_n hx hb dX9_tells_0 rfl (lv_at hl 0 rfl) ?_
  refine lv_aload_n hx hb dX9_tells_1 rfl (lv_at hl 1 rfl) ?_
  obtain ⟨o1, hco1, h⟩ := q_bind h
  refine q_calli hw (va_runV (As := [.ref (adK w)]) (rest := []) C0 (kX9_isWord hk hw0 hco1 _) (cwV 1 hts gX9_tells_X9_isWord rfl rfl rfl eX9_isWord ⟨(Nat.le_of_ble_eq_true rfl), (Nat.le_of_ble_eq_true rfl)⟩) ⟨q_blind, q_recv hw (mN_0 hk) (mE_0 hk) rfl, q_pre hw⟩ rfl rfl hl.1 rfl (lv_room (Nat.le_of_ble_eq_true rfl)) dX9_tells_2 ⟨Nat.zero_le _, Nat.zero_le _⟩) (fun H locs hw => ?_)
  refine lv_if_ne (tgt := 13) hx hb dX9_tells_5 (by decide) (fun c2 => ?_) (fun c2 => ?_)
  · replace h := q_f h c2
    refine lv_aload_n hx hb dX9_tells_13 rfl (lv_at hl 0 rfl) ?_
    obtain ⟨o3, hco3, h⟩ := q_bind h
    refine q_callv hw (va_runV (As := []) (rest := []) C0 (kX9_look hk hco3 _) (cwV 0 hts gX9_tells_X9_look rfl rfl rfl eX9_look ⟨(Nat.le_of_ble_eq_true rfl), (Nat.le_of_ble_eq_true rfl)⟩) ⟨q_blind, q_recv hw (mN_0 hk) (mE_0 hk) rfl, q_pre hw⟩ rfl rfl hl.1 rfl (lv_room (Nat.le_of_ble_eq_true rfl)) dX9_tells_14 ⟨Nat.zero_le _, Nat.zero_le _⟩) (fun H locs hw => ?_)
    refine lv_aload_n hx hb dX9_tells_17 rfl (lv_at hl 0 rfl) ?_
    refine lv_iload_n hx hb dX9_tells_18 rfl (lv_at hl 2 rfl) ?_
    refine lv_iload_n hx hb dX9_tells_19 rfl (lv_at hl 3 rfl) ?_
    refine lv_iload hx hb dX9_tells_20 (lv_at hl 4 rfl) ?_
    obtain ⟨o4, hco4, h⟩ := q_bind h
    refine q_calli hw (va_runV (As := [.int p2, .int p3, .int p4]) (rest := []) C0 (kX9_number hk hco4 _) (cwV 3 hts gX9_tells_X9_number rfl rfl rfl eX9_number ⟨(Nat.le_of_ble_eq_true rfl), (Nat.le_of_ble_eq_true rfl)⟩) ⟨q_blind, q_recv hw (mN_0 hk) (mE_0 hk) rfl, q_pre hw⟩ rfl rfl hl.1 rfl (lv_room (Nat.le_of_ble_eq_true rfl)) dX9_tells_22 ⟨Nat.zero_le _, Nat.zero_le _⟩) (fun H locs hw => ?_)
    obtain ⟨b5, h⟩ := q_if h
    exact q_zret h C0 hr (q_nz b5) hlk hw dX9_tells_25
  · replace h := q_t h c2
    refine lv_aload_n hx hb dX9_tells_8 rfl (lv_at hl 0 rfl) ?_
    obtain ⟨o6, hco6, h⟩ := q_bind h
    refine q_calli hw (va_runV (As := []) (rest := []) C0 (kX9_isWrong hk hco6 _) (cwV 0 hts gX9_tells_X9_isWrong rfl rfl rfl eX9_isWrong ⟨(Nat.le_of_ble_eq_true rfl), (Nat.le_of_ble_eq_true rfl)⟩) ⟨q_blind, q_recv hw (mN_0 hk) (mE_0 hk) rfl, q_pre hw⟩ rfl rfl hl.1 rfl (lv_room (Nat.le_of_ble_eq_true rfl)) dX9_tells_9 ⟨Nat.zero_le _, Nat.zero_le _⟩) (fun H locs hw => ?_)
    obtain ⟨b7, h⟩ := q_if h
    exact q_zret h C0 hr (q_nz b7) hlk hw dX9_tells_12
-- X9_between between()J
theorem iX9_between_X9 : ∀ w ∈ wsX90, w ∈ wsX9_between := by decide +kernel
set_option maxHeartbeats 4000000 in
set_option maxRecDepth 100000 in
theorem tX9_between_c78 {k : Nat} {rec4 : Int64 → Int32 → q_M → Option (Int64 × q_M)} {rec18 : Int64 → Int32 → Int32 → Int32 → q_M → Option (Int64 × q_M)} (hk : mB N k) (C0 : CallFix p m c cX9_between 8 s args wsX9_between RX9) (hr : meth.sig.returnType = (some .long)) (hlk : meth.locks = false) {out : Int64 × q_M} (hrec4 : ∀ (v1 : Int64) (v3 : Int32) (σ : q_M) (H : Heap) (locs : List Loc) (ls : Array Slot), q_H (gM D cI cJ cR ad adK adV N) (q_A (gM D cI cJ cR ad adK adV N) s.heap.size) s σ H locs → lv_has ls 8 [(0, .ref (ad k)), (1, .long v1), (3, .int v3)] → rec4 v1 v3 σ = some out → W p l e { frames := 1, cells := 0, slots := 0, locals := 25 } s m args below meth c H locs 0 0 (MQ below (q_Rl (gM D cI cJ cR ad adK adV N) (q_A (gM D cI cJ cR ad adK adV N) s.heap.size) out) args s 0 0 (q_A (gM D cI cJ cR ad adK adV N) s.heap.size)) (F0 m 4 ls [])) (hrec18 : ∀ (v1 : Int64) (v3 : Int32) (v4 : Int32) (v5 : Int32) (σ : q_M) (H : Heap) (locs : List Loc) (ls : Array Slot), q_H (gM D cI cJ cR ad adK adV N) (q_A (gM D cI cJ cR ad adK adV N) s.heap.size) s σ H locs → lv_has ls 8 [(0, .ref (ad k)), (1, .long v1), (3, .int v3), (4, .int v4), (5, .int v5)] → rec18 v1 v3 v4 v5 σ = some out → W p l e { frames := 1, cells := 0, slots := 0, locals := 25 } s m args below meth c H locs 0 0 (MQ below (q_Rl (gM D cI cJ cR ad adK adV N) (q_A (gM D cI cJ cR ad adK adV N) s.heap.size) out) args s 0 0 (q_A (gM D cI cJ cR ad adK adV N) s.heap.size)) (F0 m 18 ls [])) : ∀ (v1 : Int64) (v3 : Int32) (v5 : Int32) (v6 : Int32) (v7 : Int32) (s0 : Int64) (s1 : Int64) (s2 : Int32) (σ : q_M) (H : Heap) (locs : List Loc) (ls : Array Slot), q_H (gM D cI cJ cR ad adK adV N) (q_A (gM D cI cJ cR ad adK adV N) s.heap.size) s σ H locs → lv_has ls 8 [(0, .ref (ad k)), (1, .long v1), (3, .int v3), (5, .int v5), (6, .int v6), (7, .int v7)] → fX9_between_c78 k rec4 rec18 v1 v3 v5 v6 v7 s0 s1 s2 σ = some out → W p l e { frames := 1, cells := 0, slots := 0, locals := 25 } s m args below meth c H locs 0 0 (MQ below (q_Rl (gM D cI cJ cR ad adK adV N) (q_A (gM D cI cJ cR ad adK adV N) s.heap.size) out) args s 0 0 (q_A (gM D cI cJ cR ad adK adV N) s.heap.size)) (F0 m 78 ls [.long s0, .long s1, .int s2]) := by
  obtain ⟨hx, hb, hml, hown, hts⟩ := id C0
  intro v1 v3 v5 v6 v7 s0 s1 s2 σ H locs ls  hw hl h
  unfold fX9_between_c78 at h
  refine lv_iload hx hb dX9_between_78 (lv_at hl 4 rfl) ?_
  refine lv_iload hx hb dX9_between_80 (lv_at hl 5 rfl) ?_
  refine lv_icmp_ge (tgt := 91) hx hb dX9_between_82 (by decide) (fun c1 => ?_) (fun c1 => ?_)
  · replace h := q_t h c1
    refine lv_iload hx hb dX9_between_91 (lv_at hl 4 rfl) ?_
    refine lv_i2l hx hb dX9_between_93 rfl ?_
    obtain ⟨o2, hco2, h⟩ := q_bind h
    refine q_calli hw (va_runS (As := [.long s1, .long s0, .long v6.toInt64]) (rest := [.int s2]) C0 (kX9_in hco2 _) (va_cwS 3 hts gX9_between_X9_in rfl rfl rfl eX9_in ⟨(Nat.le_of_ble_eq_true rfl), (Nat.le_of_ble_eq_true rfl)⟩) ⟨q_blind, q_pre hw⟩ rfl rfl hl.1 rfl (lv_room (Nat.le_of_ble_eq_true rfl)) dX9_between_94 ⟨Nat.zero_le _, Nat.zero_le _⟩) (fun H locs hw => ?_)
    refine lv_iand hx hb dX9_between_97 ?_
    refine lv_istore (lv' := [(4, .int (s2 &&& o2.1)), (0, .ref (ad k)), (1, .long v1), (3, .int v3), (5, .int v5), (6, .int v6), (7, .int v7)]) hx hb dX9_between_98 hl (by decide) rfl (fun ls hl => ?_)
    refine lv_iinc (v := (v5 + (1 : Int32))) (lv' := [(5, .int (v5 + (1 : Int32))), (4, .int (s2 &&& o2.1)), (0, .ref (ad k)), (1, .long v1), (3, .int v3), (6, .int v6), (7, .int v7)]) hx hb dX9_between_100 hl (k := 4) rfl rfl (by decide) rfl (fun ls hl => ?_)
    refine lv_goto (tgt := 18) hx hb dX9_between_103 (by decide) ?_
    exact hrec18 v1 v3 (s2 &&& o2.1) (v5 + (1 : Int32)) o2.2 _ _ _ hw (lv_sub hl [2, 3, 4, 1, 0] rfl) h
  · replace h := q_f h c1
    refine lv_iload hx hb dX9_between_85 (lv_at hl 5 rfl) ?_
    refine lv_i2l hx hb dX9_between_87 rfl ?_
    refine lv_goto (tgt := 94) hx hb dX9_between_88 (by decide) ?_
    obtain ⟨o3, hco3, h⟩ := q_bind h
    refine q_calli hw (va_runS (As := [.long s1, .long s0, .long v7.toInt64]) (rest := [.int s2]) C0 (kX9_in hco3 _) (va_cwS 3 hts gX9_between_X9_in rfl rfl rfl eX9_in ⟨(Nat.le_of_ble_eq_true rfl), (Nat.le_of_ble_eq_true rfl)⟩) ⟨q_blind, q_pre hw⟩ rfl rfl hl.1 rfl (lv_room (Nat.le_of_ble_eq_true rfl)) dX9_between_94 ⟨Nat.zero_le _, Nat.zero_le _⟩) (fun H locs hw => ?_)
    refine lv_iand hx hb dX9_between_97 ?_
    refine lv_istore (lv' := [(4, .int (s2 &&& o3.1)), (0, .ref (ad k)), (1, .long v1), (3, .int v3), (5, .int v5), (6, .int v6), (7, .int v7)]) hx hb dX9_between_98 hl (by decide) rfl (fun ls hl => ?_)
    refine lv_iinc (v := (v5 + (1 : Int32))) (lv' := [(5, .int (v5 + (1 : Int32))), (4, .int (s2 &&& o3.1)), (0, .ref (ad k)), (1, .long v1), (3, .int v3), (6, .int v6), (7, .int v7)]) hx hb dX9_between_100 hl (k := 4) rfl rfl (by decide) rfl (fun ls hl => ?_)
    refine lv_goto (tgt := 18) hx hb dX9_between_103 (by decide) ?_
    exact hrec18 v1 v3 (s2 &&& o3.1) (v5 + (1 : Int32)) o3.2 _ _ _ hw (lv_sub hl [2, 3, 4, 1, 0] rfl) h
set_option maxHeartbeats 4000000 in
set_option maxRecDepth 100000 in
theorem tX9_between_c18 {k : Nat} {rec4 : Int64 → Int32 → q_M → Option (Int64 × q_M)} (hk : mB N k) (C0 : CallFix p m c cX9_between 8 s args wsX9_between RX9) (hr : meth.sig.returnType = (some .long)) (hlk : meth.locks = false) {out : Int64 × q_M} (hrec4 : ∀ (v1 : Int64) (v3 : Int32) (σ : q_M) (H : Heap) (locs : List Loc) (ls : Array Slot), q_H (gM D cI cJ cR ad adK adV N) (q_A (gM D cI cJ cR ad adK adV N) s.heap.size) s σ H locs → lv_has ls 8 [(0, .ref (ad k)), (1, .long v1), (3, .int v3)] → rec4 v1 v3 σ = some out → W p l e { frames := 1, cells := 0, slots := 0, locals := 25 } s m args below meth c H locs 0 0 (MQ below (q_Rl (gM D cI cJ cR ad adK adV N) (q_A (gM D cI cJ cR ad adK adV N) s.heap.size) out) args s 0 0 (q_A (gM D cI cJ cR ad adK adV N) s.heap.size)) (F0 m 4 ls [])) : ∀ n : Nat, ∀ (v1 : Int64) (v3 : Int32) (v4 : Int32) (v5 : Int32) (σ : q_M) (H : Heap) (locs : List Loc) (ls : Array Slot), q_H (gM D cI cJ cR ad adK adV N) (q_A (gM D cI cJ cR ad adK adV N) s.heap.size) s σ H locs → lv_has ls 8 [(0, .ref (ad k)), (1, .long v1), (3, .int v3), (4, .int v4), (5, .int v5)] → fX9_between_c18 k rec4 n v1 v3 v4 v5 σ = some out → W p l e { frames := 1, cells := 0, slots := 0, locals := 25 } s m args below meth c H locs 0 0 (MQ below (q_Rl (gM D cI cJ cR ad adK adV N) (q_A (gM D cI cJ cR ad adK adV N) s.heap.size) out) args s 0 0 (q_A (gM D cI cJ cR ad adK adV N) s.heap.size)) (F0 m 18 ls []) := by
  obtain ⟨hx, hb, hml, hown, hts⟩ := id C0
  intro n
  induction n with
  | zero =>
    intro v1 v3 v4 v5 σ H locs ls  hw hl h
    cases (show (none : Option (Int64 × q_M)) = some out from h)
  | succ n hrec18 =>
    intro v1 v3 v4 v5 σ H locs ls  hw hl h
    replace h : fX9_between_c18b k rec4 (fX9_between_c18 k rec4 n) v1 v3 v4 v5 σ = some out := h
    unfold fX9_between_c18b at h
    refine lv_iload hx hb dX9_between_18 (lv_at hl 4 rfl) ?_
    refine lv_iconst (v := (3 : Int32)) hx hb dX9_between_20 (by decide) ?_
    refine lv_icmp_ge (tgt := 106) hx hb dX9_between_21 (by decide) (fun c1 => ?_) (fun c1 => ?_)
    · replace h := q_t h c1
      refine lv_lload_n hx hb dX9_between_106 rfl (lv_at hl 1 rfl) ?_
      refine lv_iload hx hb dX9_between_107 (lv_at hl 3 rfl) ?_
      refine lv_if_eq (tgt := 118) hx hb dX9_between_109 (by decide) (fun c2 => ?_) (fun c2 => ?_)
      · replace h := q_t h c2
        refine lv_lconst (v := (0 : Int64)) hx hb dX9_between_118 (by decide) ?_
        refine lv_lor hx hb dX9_between_119 ?_
        refine lv_lstore_n (lv' := [(1, .long (v1 ||| (0 : Int64))), (0, .ref (ad k)), (3, .int v3), (4, .int v4), (5, .int v5)]) hx hb dX9_between_120 rfl hl (by decide) rfl (fun ls hl => ?_)
        refine lv_iinc (v := (v3 + (1 : Int32))) (lv' := [(3, .int (v3 + (1 : Int32))), (1, .long (v1 ||| (0 : Int64))), (0, .ref (ad k)), (4, .int v4), (5, .int v5)]) hx hb dX9_between_121 hl (k := 2) rfl rfl (by decide) rfl (fun ls hl => ?_)
        refine lv_goto (tgt := 4) hx hb dX9_between_124 (by decide) ?_
        exact hrec4 (v1 ||| (0 : Int64)) (v3 + (1 : Int32)) σ _ _ _ hw (lv_sub hl [2, 1, 0] rfl) h
      · replace h := q_f h c2
        refine lv_lconst (v := (1 : Int64)) hx hb dX9_between_112 (by decide) ?_
        refine lv_iload_n hx hb dX9_between_113 rfl (lv_at hl 2 rfl) ?_
        refine lv_lshl (v := (q_shl (1 : Int64) v3)) hx hb dX9_between_114 rfl ?_
        refine lv_goto (tgt := 119) hx hb dX9_between_115 (by decide) ?_
        refine lv_lor hx hb dX9_between_119 ?_
        refine lv_topl (fun x3 e_x3 => ?_)
        replace h := q_let_at e_x3 h
        refine lv_lstore_n (lv' := [(1, .long x3), (0, .ref (ad k)), (3, .int v3), (4, .int v4), (5, .int v5)]) hx hb dX9_between_120 rfl hl (by decide) rfl (fun ls hl => ?_)
        refine lv_iinc (v := (v3 + (1 : Int32))) (lv' := [(3, .int (v3 + (1 : Int32))), (1, .long x3), (0, .ref (ad k)), (4, .int v4), (5, .int v5)]) hx hb dX9_between_121 hl (k := 2) rfl rfl (by decide) rfl (fun ls hl => ?_)
        refine lv_goto (tgt := 4) hx hb dX9_between_124 (by decide) ?_
        exact hrec4 x3 (v3 + (1 : Int32)) σ _ _ _ hw (lv_sub hl [2, 1, 0] rfl) h
    · replace h := q_f h c1
      refine lv_aload_n hx hb dX9_between_24 rfl (lv_at hl 0 rfl) ?_
      refine lv_aload_n hx hb dX9_between_25 rfl (lv_at hl 0 rfl) ?_
      refine gt_X9_25 C0 hw hk iX9_between_X9 (by decide +kernel) dX9_between_26 ?_
      refine lv_iconst (v := (0 : Int32)) hx hb dX9_between_29 (by decide) ?_
      obtain ⟨b4, h⟩ := q_if h
      refine q_iald (t0 := 0) C0 hw (mN_13 hk) (mE_13 hk) rfl b4 dX9_between_30 ?_
      refine lv_iload hx hb dX9_between_31 (lv_at hl 4 rfl) ?_
      obtain ⟨o5, hco5, h⟩ := q_bind h
      refine q_calli hw (va_runV (As := [.int (σ.1 (k + 13) (0 : Int32).toNatClampNeg), .int v5]) (rest := []) C0 (kX9_sideOf hk hco5 _) (cwV 2 hts gX9_between_X9_sideOf rfl rfl rfl eX9_sideOf ⟨(Nat.le_of_ble_eq_true rfl), (Nat.le_of_ble_eq_true rfl)⟩) ⟨q_blind, q_recv hw (mN_0 hk) (mE_0 hk) rfl, q_pre hw⟩ rfl rfl hl.1 rfl (lv_room (Nat.le_of_ble_eq_true rfl)) dX9_between_33 ⟨Nat.zero_le _, Nat.zero_le _⟩) (fun H locs hw => ?_)
      refine lv_istore (lv' := [(6, .int o5.1), (0, .ref (ad k)), (1, .long v1), (3, .int v3), (4, .int v4), (5, .int v5)]) hx hb dX9_between_36 hl (by decide) rfl (fun ls hl => ?_)
      refine lv_aload_n hx hb dX9_between_38 rfl (lv_at hl 1 rfl) ?_
      refine lv_aload_n hx hb dX9_between_39 rfl (lv_at hl 1 rfl) ?_
      refine gt_X9_25 C0 hw hk iX9_between_X9 (by decide +kernel) dX9_between_40 ?_
      refine lv_iconst (v := (1 : Int32)) hx hb dX9_between_43 (by decide) ?_
      obtain ⟨b6, h⟩ := q_if h
      refine q_iald (t0 := 0) C0 hw (mN_13 hk) (mE_13 hk) rfl b6 dX9_between_44 ?_
      refine lv_iload hx hb dX9_between_45 (lv_at hl 5 rfl) ?_
      obtain ⟨o7, hco7, h⟩ := q_bind h
      refine q_calli hw (va_runV (As := [.int (o5.2.1 (k + 13) (1 : Int32).toNatClampNeg), .int v5]) (rest := []) C0 (kX9_sideOf hk hco7 _) (cwV 2 hts gX9_between_X9_sideOf rfl rfl rfl eX9_sideOf ⟨(Nat.le_of_ble_eq_true rfl), (Nat.le_of_ble_eq_true rfl)⟩) ⟨q_blind, q_recv hw (mN_0 hk) (mE_0 hk) rfl, q_pre hw⟩ rfl rfl hl.1 rfl (lv_room (Nat.le_of_ble_eq_true rfl)) dX9_between_47 ⟨Nat.zero_le _, Nat.zero_le _⟩) (fun H locs hw => ?_)
      refine lv_istore (lv' := [(7, .int o7.1), (6, .int o5.1), (0, .ref (ad k)), (1, .long v1), (3, .int v3), (4, .int v4), (5, .int v5)]) hx hb dX9_between_50 hl (by decide) rfl (fun ls hl => ?_)
      refine lv_iload hx hb dX9_between_52 (lv_at hl 5 rfl) ?_
      refine lv_aload_n hx hb dX9_between_54 rfl (lv_at hl 2 rfl) ?_
      refine lv_iload_n hx hb dX9_between_55 rfl (lv_at hl 4 rfl) ?_
      refine lv_iload hx hb dX9_between_56 (lv_at hl 6 rfl) ?_
      obtain ⟨o8, hco8, h⟩ := q_bind h
      refine q_calli hw (va_runV (As := [.int v3, .int v5]) (rest := [.int v4]) C0 (kX9_sideOf hk hco8 _) (cwV 2 hts gX9_between_X9_sideOf rfl rfl rfl eX9_sideOf ⟨(Nat.le_of_ble_eq_true rfl), (Nat.le_of_ble_eq_true rfl)⟩) ⟨q_blind, q_recv hw (mN_0 hk) (mE_0 hk) rfl, q_pre hw⟩ rfl rfl hl.1 rfl (lv_room (Nat.le_of_ble_eq_true rfl)) dX9_between_58 ⟨Nat.zero_le _, Nat.zero_le _⟩) (fun H locs hw => ?_)
      refine lv_i2l hx hb dX9_between_61 rfl ?_
      refine lv_iload hx hb dX9_between_62 (lv_at hl 1 rfl) ?_
      refine lv_iload hx hb dX9_between_64 (lv_at hl 0 rfl) ?_
      refine lv_icmp_ge (tgt := 75) hx hb dX9_between_66 (by decide) (fun c9 => ?_) (fun c9 => ?_)
      · replace h := q_t h c9
        refine lv_iload hx hb dX9_between_75 (lv_at hl 0 rfl) ?_
        refine lv_i2l hx hb dX9_between_77 rfl ?_
        exact tX9_between_c78 hk C0 hr hlk hrec4 hrec18 v1 v3 v5 o5.1 o7.1 o7.1.toInt64 o8.1.toInt64 v4 o8.2 _ _ _ hw (lv_sub hl [2, 3, 4, 6, 1, 0] rfl) h
      · replace h := q_f h c9
        refine lv_iload hx hb dX9_between_69 (lv_at hl 1 rfl) ?_
        refine lv_i2l hx hb dX9_between_71 rfl ?_
        refine lv_goto (tgt := 78) hx hb dX9_between_72 (by decide) ?_
        exact tX9_between_c78 hk C0 hr hlk hrec4 hrec18 v1 v3 v5 o5.1 o7.1 o5.1.toInt64 o8.1.toInt64 v4 o8.2 _ _ _ hw (lv_sub hl [2, 3, 4, 6, 1, 0] rfl) h
set_option maxHeartbeats 4000000 in
set_option maxRecDepth 100000 in
theorem tX9_between_c4 {k : Nat} (hk : mB N k) (C0 : CallFix p m c cX9_between 8 s args wsX9_between RX9) (hr : meth.sig.returnType = (some .long)) (hlk : meth.locks = false) {out : Int64 × q_M}  : ∀ n : Nat, ∀ (v1 : Int64) (v3 : Int32) (σ : q_M) (H : Heap) (locs : List Loc) (ls : Array Slot), q_H (gM D cI cJ cR ad adK adV N) (q_A (gM D cI cJ cR ad adK adV N) s.heap.size) s σ H locs → lv_has ls 8 [(0, .ref (ad k)), (1, .long v1), (3, .int v3)] → fX9_between_c4 k n v1 v3 σ = some out → W p l e { frames := 1, cells := 0, slots := 0, locals := 25 } s m args below meth c H locs 0 0 (MQ below (q_Rl (gM D cI cJ cR ad adK adV N) (q_A (gM D cI cJ cR ad adK adV N) s.heap.size) out) args s 0 0 (q_A (gM D cI cJ cR ad adK adV N) s.heap.size)) (F0 m 4 ls []) := by
  obtain ⟨hx, hb, hml, hown, hts⟩ := id C0
  intro n
  induction n with
  | zero =>
    intro v1 v3 σ H locs ls  hw hl h
    cases (show (none : Option (Int64 × q_M)) = some out from h)
  | succ n hrec4 =>
    intro v1 v3 σ H locs ls  hw hl h
    replace h : fX9_between_c4b k (fX9_between_c4 k n) v1 v3 σ = some out := h
    unfold fX9_between_c4b at h
    refine lv_iload_n hx hb dX9_between_4 rfl (lv_at hl 2 rfl) ?_
    refine lv_aload_n hx hb dX9_between_5 rfl (lv_at hl 0 rfl) ?_
    obtain ⟨o1, hco1, h⟩ := q_bind h
    refine q_calli hw (va_runV (As := []) (rest := [.int v3]) C0 (kX9_many hk hco1 _) (cwV 0 hts gX9_between_X9_many rfl rfl rfl eX9_many ⟨(Nat.le_of_ble_eq_true rfl), (Nat.le_of_ble_eq_true rfl)⟩) ⟨q_blind, q_recv hw (mN_0 hk) (mE_0 hk) rfl, q_pre hw⟩ rfl rfl hl.1 rfl (lv_room (Nat.le_of_ble_eq_true rfl)) dX9_between_6 ⟨Nat.zero_le _, Nat.zero_le _⟩) (fun H locs hw => ?_)
    refine lv_icmp_ge (tgt := 127) hx hb dX9_between_9 (by decide) (fun c2 => ?_) (fun c2 => ?_)
    · replace h := q_t h c2
      refine lv_lload_n hx hb dX9_between_127 rfl (lv_at hl 1 rfl) ?_
      exact q_lret h C0 hr hlk hw dX9_between_128
    · replace h := q_f h c2
      refine lv_iconst (v := (1 : Int32)) hx hb dX9_between_12 (by decide) ?_
      refine lv_istore (lv' := [(4, .int (1 : Int32)), (0, .ref (ad k)), (1, .long v1), (3, .int v3)]) hx hb dX9_between_13 hl (by decide) rfl (fun ls hl => ?_)
      refine lv_iconst (v := (0 : Int32)) hx hb dX9_between_15 (by decide) ?_
      refine lv_istore (lv' := [(5, .int (0 : Int32)), (4, .int (1 : Int32)), (0, .ref (ad k)), (1, .long v1), (3, .int v3)]) hx hb dX9_between_16 hl (by decide) rfl (fun ls hl => ?_)
      exact tX9_between_c18 hk C0 hr hlk hrec4 q_FU v1 v3 (1 : Int32) (0 : Int32) o1.2 _ _ _ hw (lv_sub hl [2, 3, 4, 1, 0] rfl) h
set_option maxHeartbeats 4000000 in
set_option maxRecDepth 100000 in
theorem kX9_between {k : Nat} (hk : mB N k) {σ : q_M} {out : Int64 × q_M} (h : fX9_between k σ = some out) : q_Ml l (gM D cI cJ cR ad adK adV N) yX9_between wsX9_between { frames := 1, cells := 0, slots := 0, locals := 25 } [.ref (ad k)] σ out := by
  refine q_Ml_of (cc := cX9_between) (maxL := 8) (ret := (some .long)) (by decide) rfl (Nat.le_of_ble_eq_true rfl) ?_
  intro p e s m below meth c ls C0 hr hlk hl hw
  obtain ⟨hx, hb, hml, hown, hts⟩ := id C0
  replace hl : lv_has ls 8 [(0, .ref (ad k))] := hl
  unfold fX9_between at h
  refine lv_lconst (v := (0 : Int64)) hx hb dX9_between_0 (by decide) ?_
  refine lv_lstore_n (lv' := [(1, .long (0 : Int64)), (0, .ref (ad k))]) hx hb dX9_between_1 rfl hl (by decide) rfl (fun ls hl => ?_)
  refine lv_iconst (v := (0 : Int32)) hx hb dX9_between_2 (by decide) ?_
  refine lv_istore_n (lv' := [(3, .int (0 : Int32)), (1, .long (0 : Int64)), (0, .ref (ad k))]) hx hb dX9_between_3 rfl hl (by decide) rfl (fun ls hl => ?_)
  exact tX9_between_c4 hk C0 hr hlk q_FU (0 : Int64) (0 : Int32) σ _ _ _ hw (lv_sub hl [2, 1, 0] rfl) h
-- X9_span span(Ljava/lang/String;)Z
theorem eX9_tells : yX9_tells.cls = RX9 ∧ yX9_tells.cls ≠ "java/lang/invoke/MethodHandle" ∧ yX9_tells.cls ≠ "java/lang/invoke/VarHandle" ∧ (parseMethodDescriptor yX9_tells.desc).map (fun d => d.parameters.length) = some 4 := by decide +kernel
set_option maxHeartbeats 4000000 in
set_option maxRecDepth 100000 in
theorem kX9_span {k : Nat} {w : Nat} (hk : mB N k) (hw0 : w < 9) {σ : q_M} {out : Int32 × q_M} (h : fX9_span k w σ = some out) : q_Mi l (gM D cI cJ cR ad adK adV N) yX9_span wsX9_span { frames := 6, cells := 0, slots := 0, locals := 131 } [.ref (ad k), .ref (adK w)] σ out := by
  refine q_Mi_of (cc := cX9_span) (maxL := 2) (ret := (some .boolean)) (by decide) rfl (Nat.le_of_ble_eq_true rfl) ?_
  intro p e s m below meth c ls C0 hr hlk hl hw
  obtain ⟨hx, hb, hml, hown, hts⟩ := id C0
  replace hl : lv_has ls 2 [(0, .ref (ad k)), (1, .ref (adK w))] := hl
  unfold fX9_span at h
  refine lv_aload_n hx hb dX9_span_0 rfl (lv_at hl 0 rfl) ?_
  refine lv_aload_n hx hb dX9_span_1 rfl (lv_at hl 1 rfl) ?_
  refine lv_iconst (v := (0 : Int32)) hx hb dX9_span_2 (by decide) ?_
  refine lv_iconst (v := (0 : Int32)) hx hb dX9_span_3 (by decide) ?_
  refine lv_aload_n hx hb dX9_span_4 rfl (lv_at hl 0 rfl) ?_
  obtain ⟨o1, hco1, h⟩ := q_bind h
  refine q_calli hw (va_runV (As := []) (rest := [.int (0 : Int32), .int (0 : Int32), .ref (adK w), .ref (ad k)]) C0 (kX9_many hk hco1 _) (cwV 0 hts gX9_span_X9_many rfl rfl rfl eX9_many ⟨(Nat.le_of_ble_eq_true rfl), (Nat.le_of_ble_eq_true rfl)⟩) ⟨q_blind, q_recv hw (mN_0 hk) (mE_0 hk) rfl, q_pre hw⟩ rfl rfl hl.1 rfl (lv_room (Nat.le_of_ble_eq_true rfl)) dX9_span_5 ⟨Nat.zero_le _, Nat.zero_le _⟩) (fun H locs hw => ?_)
  refine lv_iconst (v := (1 : Int32)) hx hb dX9_span_8 (by decide) ?_
  refine lv_isub hx hb dX9_span_9 ?_
  obtain ⟨o2, hco2, h⟩ := q_bind h
  refine q_calli hw (va_runV (As := [.ref (adK w), .int (0 : Int32), .int (0 : Int32), .int (o1.1 - (1 : Int32))]) (rest := []) C0 (kX9_tells hk hw0 hco2 _) (cwV 4 hts gX9_span_X9_tells rfl rfl rfl eX9_tells ⟨(Nat.le_of_ble_eq_true rfl), (Nat.le_of_ble_eq_true rfl)⟩) ⟨q_blind, q_recv hw (mN_0 hk) (mE_0 hk) rfl, q_pre hw⟩ rfl rfl hl.1 rfl (lv_room (Nat.le_of_ble_eq_true rfl)) dX9_span_10 ⟨Nat.zero_le _, Nat.zero_le _⟩) (fun H locs hw => ?_)
  refine lv_if_eq (tgt := 37) hx hb dX9_span_13 (by decide) (fun c3 => ?_) (fun c3 => ?_)
  · replace h := q_t h c3
    refine lv_iconst (v := (0 : Int32)) hx hb dX9_span_37 (by decide) ?_
    exact q_zret h C0 hr rfl hlk hw dX9_span_38
  · replace h := q_f h c3
    refine lv_aload_n hx hb dX9_span_16 rfl (lv_at hl 0 rfl) ?_
    refine va_ldcS hx hb hown (q_Zr2 hw 8 (by decide)) dX9_span_17 ?_
    refine lv_iconst (v := (1 : Int32)) hx hb dX9_span_19 (by decide) ?_
    refine lv_iconst (v := (0 : Int32)) hx hb dX9_span_20 (by decide) ?_
    refine lv_aload_n hx hb dX9_span_21 rfl (lv_at hl 0 rfl) ?_
    obtain ⟨o4, hco4, h⟩ := q_bind h
    refine q_calli hw (va_runV (As := []) (rest := [.int (0 : Int32), .int (1 : Int32), .ref (adK 8), .ref (ad k)]) C0 (kX9_many hk hco4 _) (cwV 0 hts gX9_span_X9_many rfl rfl rfl eX9_many ⟨(Nat.le_of_ble_eq_true rfl), (Nat.le_of_ble_eq_true rfl)⟩) ⟨q_blind, q_recv hw (mN_0 hk) (mE_0 hk) rfl, q_pre hw⟩ rfl rfl hl.1 rfl (lv_room (Nat.le_of_ble_eq_true rfl)) dX9_span_22 ⟨Nat.zero_le _, Nat.zero_le _⟩) (fun H locs hw => ?_)
    refine lv_iconst (v := (1 : Int32)) hx hb dX9_span_25 (by decide) ?_
    refine lv_isub hx hb dX9_span_26 ?_
    obtain ⟨o5, hco5, h⟩ := q_bind h
    refine q_calli hw (va_runV (As := [.ref (adK 8), .int (1 : Int32), .int (0 : Int32), .int (o4.1 - (1 : Int32))]) (rest := []) C0 (kX9_tells hk (by decide) hco5 _) (cwV 4 hts gX9_span_X9_tells rfl rfl rfl eX9_tells ⟨(Nat.le_of_ble_eq_true rfl), (Nat.le_of_ble_eq_true rfl)⟩) ⟨q_blind, q_recv hw (mN_0 hk) (mE_0 hk) rfl, q_pre hw⟩ rfl rfl hl.1 rfl (lv_room (Nat.le_of_ble_eq_true rfl)) dX9_span_27 ⟨Nat.zero_le _, Nat.zero_le _⟩) (fun H locs hw => ?_)
    refine lv_if_eq (tgt := 37) hx hb dX9_span_30 (by decide) (fun c6 => ?_) (fun c6 => ?_)
    · replace h := q_t h c6
      refine lv_iconst (v := (0 : Int32)) hx hb dX9_span_37 (by decide) ?_
      exact q_zret h C0 hr rfl hlk hw dX9_span_38
    · replace h := q_f h c6
      refine lv_iconst (v := (1 : Int32)) hx hb dX9_span_33 (by decide) ?_
      refine lv_goto (tgt := 38) hx hb dX9_span_34 (by decide) ?_
      exact q_zret h C0 hr rfl hlk hw dX9_span_38
-- X9_statement statement()Z
theorem iX9_statement_X9 : ∀ w ∈ wsX90, w ∈ wsX9_statement := by decide +kernel
theorem eX9_between : yX9_between.cls = RX9 ∧ yX9_between.cls ≠ "java/lang/invoke/MethodHandle" ∧ yX9_between.cls ≠ "java/lang/invoke/VarHandle" ∧ (parseMethodDescriptor yX9_between.desc).map (fun d => d.parameters.length) = some 0 := by decide +kernel
theorem eX9_span : yX9_span.cls = RX9 ∧ yX9_span.cls ≠ "java/lang/invoke/MethodHandle" ∧ yX9_span.cls ≠ "java/lang/invoke/VarHandle" ∧ (parseMethodDescriptor yX9_span.desc).map (fun d => d.parameters.length) = some 1 := by decide +kernel
set_option maxHeartbeats 4000000 in
set_option maxRecDepth 100000 in
theorem tX9_statement_c72 {k : Nat} (hk : mB N k) (C0 : CallFix p m c cX9_statement 2 s args wsX9_statement RX9) (hr : meth.sig.returnType = (some .boolean)) (hlk : meth.locks = false) {out : Int32 × q_M}  : ∀ (v1 : Int32) (q0 : Nat) (σ : q_M) (H : Heap) (locs : List Loc) (ls : Array Slot), q0 < 9 → q_H (gM D cI cJ cR ad adK adV N) (q_A (gM D cI cJ cR ad adK adV N) s.heap.size) s σ H locs → lv_has ls 2 [(0, .ref (ad k)), (1, .int v1)] → fX9_statement_c72 k v1 q0 σ = some out → W p l e { frames := 7, cells := 0, slots := 0, locals := 152 } s m args below meth c H locs 0 0 (MQ below (q_Ri (gM D cI cJ cR ad adK adV N) (q_A (gM D cI cJ cR ad adK adV N) s.heap.size) out) args s 0 0 (q_A (gM D cI cJ cR ad adK adV N) s.heap.size)) (F0 m 72 ls [.ref (adK q0), .ref (ad k)]) := by
  obtain ⟨hx, hb, hml, hown, hts⟩ := id C0
  intro v1 q0 σ H locs ls hq0 hw hl h
  unfold fX9_statement_c72 at h
  obtain ⟨o1, hco1, h⟩ := q_bind h
  refine q_calli hw (va_runV (As := [.ref (adK q0)]) (rest := []) C0 (kX9_span hk hq0 hco1 _) (cwV 1 hts gX9_statement_X9_span rfl rfl rfl eX9_span ⟨(Nat.le_of_ble_eq_true rfl), (Nat.le_of_ble_eq_true rfl)⟩) ⟨q_blind, q_recv hw (mN_0 hk) (mE_0 hk) rfl, q_pre hw⟩ rfl rfl hl.1 rfl (lv_room (Nat.le_of_ble_eq_true rfl)) dX9_statement_72 ⟨Nat.zero_le _, Nat.zero_le _⟩) (fun H locs hw => ?_)
  refine lv_if_ne (tgt := 80) hx hb dX9_statement_75 (by decide) (fun c2 => ?_) (fun c2 => ?_)
  · replace h := q_f h c2
    refine lv_aload_n hx hb dX9_statement_80 rfl (lv_at hl 0 rfl) ?_
    refine lv_iload_n hx hb dX9_statement_81 rfl (lv_at hl 1 rfl) ?_
    refine lv_if_eq (tgt := 97) hx hb dX9_statement_82 (by decide) (fun c3 => ?_) (fun c3 => ?_)
    · replace h := q_t h c3
      refine lv_aload_n hx hb dX9_statement_97 rfl (lv_at hl 0 rfl) ?_
      refine gt_X9_12 C0 hw hk iX9_statement_X9 (by decide +kernel) dX9_statement_98 ?_
      refine lv_aload_n hx hb dX9_statement_101 rfl (lv_at hl 0 rfl) ?_
      obtain ⟨o4, hco4, h⟩ := q_bind h
      refine q_calll hw (va_runV (As := []) (rest := [.long (o1.2.2 k 12), .ref (ad k)]) C0 (kX9_between hk hco4 _) (cwV 0 hts gX9_statement_X9_between rfl rfl rfl eX9_between ⟨(Nat.le_of_ble_eq_true rfl), (Nat.le_of_ble_eq_true rfl)⟩) ⟨q_blind, q_recv hw (mN_0 hk) (mE_0 hk) rfl, q_pre hw⟩ rfl rfl hl.1 rfl (lv_room (Nat.le_of_ble_eq_true rfl)) dX9_statement_102 ⟨Nat.zero_le _, Nat.zero_le _⟩) (fun H locs hw => ?_)
      refine lv_ldc2 (v := (-1 : Int64)) hx hb hown (hts (.constantLong RX9 100 (-1)) (by decide +kernel)) dX9_statement_105 ?_
      refine lv_lxor hx hb dX9_statement_108 ?_
      refine lv_land hx hb dX9_statement_109 ?_
      refine pt_X9_12 C0 hw hk iX9_statement_X9 (by decide +kernel) dX9_statement_110 (fun σ5 H locs e_σ5 hw => ?_)
      replace h := q_let_at e_σ5 h
      refine lv_iconst (v := (1 : Int32)) hx hb dX9_statement_113 (by decide) ?_
      exact q_zret h C0 hr rfl hlk hw dX9_statement_114
    · replace h := q_f h c3
      refine lv_aload_n hx hb dX9_statement_85 rfl (lv_at hl 0 rfl) ?_
      refine gt_X9_12 C0 hw hk iX9_statement_X9 (by decide +kernel) dX9_statement_86 ?_
      refine lv_aload_n hx hb dX9_statement_89 rfl (lv_at hl 0 rfl) ?_
      obtain ⟨o6, hco6, h⟩ := q_bind h
      refine q_calll hw (va_runV (As := []) (rest := [.long (o1.2.2 k 12), .ref (ad k)]) C0 (kX9_between hk hco6 _) (cwV 0 hts gX9_statement_X9_between rfl rfl rfl eX9_between ⟨(Nat.le_of_ble_eq_true rfl), (Nat.le_of_ble_eq_true rfl)⟩) ⟨q_blind, q_recv hw (mN_0 hk) (mE_0 hk) rfl, q_pre hw⟩ rfl rfl hl.1 rfl (lv_room (Nat.le_of_ble_eq_true rfl)) dX9_statement_90 ⟨Nat.zero_le _, Nat.zero_le _⟩) (fun H locs hw => ?_)
      refine lv_lor hx hb dX9_statement_93 ?_
      refine lv_goto (tgt := 110) hx hb dX9_statement_94 (by decide) ?_
      refine pt_X9_12 C0 hw hk iX9_statement_X9 (by decide +kernel) dX9_statement_110 (fun σ7 H locs e_σ7 hw => ?_)
      replace h := q_let_at e_σ7 h
      refine lv_iconst (v := (1 : Int32)) hx hb dX9_statement_113 (by decide) ?_
      exact q_zret h C0 hr rfl hlk hw dX9_statement_114
  · replace h := q_t h c2
    refine lv_iconst (v := (0 : Int32)) hx hb dX9_statement_78 (by decide) ?_
    exact q_zret h C0 hr rfl hlk hw dX9_statement_79
set_option maxHeartbeats 4000000 in
set_option maxRecDepth 100000 in
theorem tX9_statement_c53 {k : Nat} (hk : mB N k) (C0 : CallFix p m c cX9_statement 2 s args wsX9_statement RX9) (hr : meth.sig.returnType = (some .boolean)) (hlk : meth.locks = false) {out : Int32 × q_M}  : ∀  (σ : q_M) (H : Heap) (locs : List Loc) (ls : Array Slot), q_H (gM D cI cJ cR ad adK adV N) (q_A (gM D cI cJ cR ad adK adV N) s.heap.size) s σ H locs → lv_has ls 2 [(0, .ref (ad k))] → fX9_statement_c53 k  σ = some out → W p l e { frames := 7, cells := 0, slots := 0, locals := 152 } s m args below meth c H locs 0 0 (MQ below (q_Ri (gM D cI cJ cR ad adK adV N) (q_A (gM D cI cJ cR ad adK adV N) s.heap.size) out) args s 0 0 (q_A (gM D cI cJ cR ad adK adV N) s.heap.size)) (F0 m 53 ls []) := by
  obtain ⟨hx, hb, hml, hown, hts⟩ := id C0
  intro  σ H locs ls  hw hl h
  unfold fX9_statement_c53 at h
  refine lv_aload_n hx hb dX9_statement_53 rfl (lv_at hl 0 rfl) ?_
  refine va_ldcS hx hb hown (q_Zr2 hw 1 (by decide)) dX9_statement_54 ?_
  obtain ⟨o1, hco1, h⟩ := q_bind h
  refine q_calli hw (va_runV (As := [.ref (adK 1)]) (rest := []) C0 (kX9_isWord hk (by decide) hco1 _) (cwV 1 hts gX9_statement_X9_isWord rfl rfl rfl eX9_isWord ⟨(Nat.le_of_ble_eq_true rfl), (Nat.le_of_ble_eq_true rfl)⟩) ⟨q_blind, q_recv hw (mN_0 hk) (mE_0 hk) rfl, q_pre hw⟩ rfl rfl hl.1 rfl (lv_room (Nat.le_of_ble_eq_true rfl)) dX9_statement_56 ⟨Nat.zero_le _, Nat.zero_le _⟩) (fun H locs hw => ?_)
  refine lv_istore_n (lv' := [(1, .int o1.1), (0, .ref (ad k))]) hx hb dX9_statement_59 rfl hl (by decide) rfl (fun ls hl => ?_)
  refine lv_aload_n hx hb dX9_statement_60 rfl (lv_at hl 1 rfl) ?_
  refine lv_iload_n hx hb dX9_statement_61 rfl (lv_at hl 0 rfl) ?_
  refine lv_if_eq (tgt := 70) hx hb dX9_statement_62 (by decide) (fun c2 => ?_) (fun c2 => ?_)
  · replace h := q_t h c2
    refine va_ldcS hx hb hown (q_Zr2 hw 2 (by decide)) dX9_statement_70 ?_
    exact tX9_statement_c72 hk C0 hr hlk o1.1 2 o1.2 _ _ _ (by decide) hw (lv_sub hl [1, 0] rfl) h
  · replace h := q_f h c2
    refine va_ldcS hx hb hown (q_Zr2 hw 1 (by decide)) dX9_statement_65 ?_
    refine lv_goto (tgt := 72) hx hb dX9_statement_67 (by decide) ?_
    exact tX9_statement_c72 hk C0 hr hlk o1.1 1 o1.2 _ _ _ (by decide) hw (lv_sub hl [1, 0] rfl) h
set_option maxHeartbeats 4000000 in
set_option maxRecDepth 100000 in
theorem tX9_statement_c220 {k : Nat} (hk : mB N k) (C0 : CallFix p m c cX9_statement 2 s args wsX9_statement RX9) (hr : meth.sig.returnType = (some .boolean)) (hlk : meth.locks = false) {out : Int32 × q_M}  : ∀  (σ : q_M) (H : Heap) (locs : List Loc) (ls : Array Slot), q_H (gM D cI cJ cR ad adK adV N) (q_A (gM D cI cJ cR ad adK adV N) s.heap.size) s σ H locs → lv_has ls 2 [(0, .ref (ad k))] → fX9_statement_c220 k  σ = some out → W p l e { frames := 7, cells := 0, slots := 0, locals := 152 } s m args below meth c H locs 0 0 (MQ below (q_Ri (gM D cI cJ cR ad adK adV N) (q_A (gM D cI cJ cR ad adK adV N) s.heap.size) out) args s 0 0 (q_A (gM D cI cJ cR ad adK adV N) s.heap.size)) (F0 m 220 ls []) := by
  obtain ⟨hx, hb, hml, hown, hts⟩ := id C0
  intro  σ H locs ls  hw hl h
  unfold fX9_statement_c220 at h
  refine lv_aload_n hx hb dX9_statement_220 rfl (lv_at hl 0 rfl) ?_
  refine va_ldcS hx hb hown (q_Zr2 hw 5 (by decide)) dX9_statement_221 ?_
  obtain ⟨o1, hco1, h⟩ := q_bind h
  refine q_calli hw (va_runV (As := [.ref (adK 5)]) (rest := []) C0 (kX9_isWord hk (by decide) hco1 _) (cwV 1 hts gX9_statement_X9_isWord rfl rfl rfl eX9_isWord ⟨(Nat.le_of_ble_eq_true rfl), (Nat.le_of_ble_eq_true rfl)⟩) ⟨q_blind, q_recv hw (mN_0 hk) (mE_0 hk) rfl, q_pre hw⟩ rfl rfl hl.1 rfl (lv_room (Nat.le_of_ble_eq_true rfl)) dX9_statement_223 ⟨Nat.zero_le _, Nat.zero_le _⟩) (fun H locs hw => ?_)
  refine lv_if_eq (tgt := 278) hx hb dX9_statement_226 (by decide) (fun c2 => ?_) (fun c2 => ?_)
  · replace h := q_t h c2
    refine lv_aload_n hx hb dX9_statement_278 rfl (lv_at hl 0 rfl) ?_
    refine va_ldcS hx hb hown (q_Zr2 hw 6 (by decide)) dX9_statement_279 ?_
    obtain ⟨o3, hco3, h⟩ := q_bind h
    refine q_calli hw (va_runV (As := [.ref (adK 6)]) (rest := []) C0 (kX9_isWord hk (by decide) hco3 _) (cwV 1 hts gX9_statement_X9_isWord rfl rfl rfl eX9_isWord ⟨(Nat.le_of_ble_eq_true rfl), (Nat.le_of_ble_eq_true rfl)⟩) ⟨q_blind, q_recv hw (mN_0 hk) (mE_0 hk) rfl, q_pre hw⟩ rfl rfl hl.1 rfl (lv_room (Nat.le_of_ble_eq_true rfl)) dX9_statement_281 ⟨Nat.zero_le _, Nat.zero_le _⟩) (fun H locs hw => ?_)
    refine lv_if_eq (tgt := 321) hx hb dX9_statement_284 (by decide) (fun c4 => ?_) (fun c4 => ?_)
    · replace h := q_t h c4
      refine lv_aload_n hx hb dX9_statement_321 rfl (lv_at hl 0 rfl) ?_
      refine va_ldcS hx hb hown (q_Zr2 hw 7 (by decide)) dX9_statement_322 ?_
      refine lv_iconst (v := (0 : Int32)) hx hb dX9_statement_324 (by decide) ?_
      refine lv_iconst (v := (1 : Int32)) hx hb dX9_statement_325 (by decide) ?_
      refine lv_sipush (v := (999 : Int32)) hx hb dX9_statement_326 (by decide) ?_
      obtain ⟨o5, hco5, h⟩ := q_bind h
      refine q_calli hw (va_runV (As := [.ref (adK 7), .int (0 : Int32), .int (1 : Int32), .int (999 : Int32)]) (rest := []) C0 (kX9_tells hk (by decide) hco5 _) (cwV 4 hts gX9_statement_X9_tells rfl rfl rfl eX9_tells ⟨(Nat.le_of_ble_eq_true rfl), (Nat.le_of_ble_eq_true rfl)⟩) ⟨q_blind, q_recv hw (mN_0 hk) (mE_0 hk) rfl, q_pre hw⟩ rfl rfl hl.1 rfl (lv_room (Nat.le_of_ble_eq_true rfl)) dX9_statement_329 ⟨Nat.zero_le _, Nat.zero_le _⟩) (fun H locs hw => ?_)
      refine lv_istore_n (lv' := [(1, .int o5.1), (0, .ref (ad k))]) hx hb dX9_statement_332 rfl hl (by decide) rfl (fun ls hl => ?_)
      refine lv_aload_n hx hb dX9_statement_333 rfl (lv_at hl 1 rfl) ?_
      refine lv_iload_n hx hb dX9_statement_334 rfl (lv_at hl 0 rfl) ?_
      refine lv_if_eq (tgt := 347) hx hb dX9_statement_335 (by decide) (fun c6 => ?_) (fun c6 => ?_)
      · replace h := q_t h c6
        refine lv_aload_n hx hb dX9_statement_347 rfl (lv_at hl 1 rfl) ?_
        refine gt_X9_18 C0 hw hk iX9_statement_X9 (by decide +kernel) dX9_statement_348 ?_
        refine pt_X9_18 C0 hw hk iX9_statement_X9 (by decide +kernel) dX9_statement_351 (fun σ7 H locs e_σ7 hw => ?_)
        replace h := q_let_at e_σ7 h
        refine lv_iload_n hx hb dX9_statement_354 rfl (lv_at hl 0 rfl) ?_
        obtain ⟨b8, h⟩ := q_if h
        exact q_zret h C0 hr (q_nz b8) hlk hw dX9_statement_355
      · replace h := q_f h c6
        refine lv_aload_n hx hb dX9_statement_338 rfl (lv_at hl 1 rfl) ?_
        refine gt_X9_25 C0 hw hk iX9_statement_X9 (by decide +kernel) dX9_statement_339 ?_
        refine lv_iconst (v := (0 : Int32)) hx hb dX9_statement_342 (by decide) ?_
        obtain ⟨b9, h⟩ := q_if h
        refine q_iald (t0 := 0) C0 hw (mN_13 hk) (mE_13 hk) rfl b9 dX9_statement_343 ?_
        refine lv_goto (tgt := 351) hx hb dX9_statement_344 (by decide) ?_
        refine pt_X9_18 C0 hw hk iX9_statement_X9 (by decide +kernel) dX9_statement_351 (fun σ10 H locs e_σ10 hw => ?_)
        replace h := q_let_at e_σ10 h
        refine lv_iload_n hx hb dX9_statement_354 rfl (lv_at hl 0 rfl) ?_
        obtain ⟨b11, h⟩ := q_if h
        exact q_zret h C0 hr (q_nz b11) hlk hw dX9_statement_355
    · replace h := q_f h c4
      refine lv_aload_n hx hb dX9_statement_287 rfl (lv_at hl 0 rfl) ?_
      refine va_ldcS hx hb hown (q_Zr2 hw 6 (by decide)) dX9_statement_288 ?_
      refine lv_iconst (v := (0 : Int32)) hx hb dX9_statement_290 (by decide) ?_
      refine lv_iconst (v := (1 : Int32)) hx hb dX9_statement_291 (by decide) ?_
      refine lv_bipush (v := (64 : Int32)) hx hb dX9_statement_292 (by decide) ?_
      obtain ⟨o12, hco12, h⟩ := q_bind h
      refine q_calli hw (va_runV (As := [.ref (adK 6), .int (0 : Int32), .int (1 : Int32), .int (64 : Int32)]) (rest := []) C0 (kX9_tells hk (by decide) hco12 _) (cwV 4 hts gX9_statement_X9_tells rfl rfl rfl eX9_tells ⟨(Nat.le_of_ble_eq_true rfl), (Nat.le_of_ble_eq_true rfl)⟩) ⟨q_blind, q_recv hw (mN_0 hk) (mE_0 hk) rfl, q_pre hw⟩ rfl rfl hl.1 rfl (lv_room (Nat.le_of_ble_eq_true rfl)) dX9_statement_294 ⟨Nat.zero_le _, Nat.zero_le _⟩) (fun H locs hw => ?_)
      refine lv_istore_n (lv' := [(1, .int o12.1), (0, .ref (ad k))]) hx hb dX9_statement_297 rfl hl (by decide) rfl (fun ls hl => ?_)
      refine lv_aload_n hx hb dX9_statement_298 rfl (lv_at hl 1 rfl) ?_
      refine lv_iload_n hx hb dX9_statement_299 rfl (lv_at hl 0 rfl) ?_
      refine lv_if_eq (tgt := 312) hx hb dX9_statement_300 (by decide) (fun c13 => ?_) (fun c13 => ?_)
      · replace h := q_t h c13
        refine lv_aload_n hx hb dX9_statement_312 rfl (lv_at hl 1 rfl) ?_
        refine gt_X9_17 C0 hw hk iX9_statement_X9 (by decide +kernel) dX9_statement_313 ?_
        refine pt_X9_17 C0 hw hk iX9_statement_X9 (by decide +kernel) dX9_statement_316 (fun σ14 H locs e_σ14 hw => ?_)
        replace h := q_let_at e_σ14 h
        refine lv_iload_n hx hb dX9_statement_319 rfl (lv_at hl 0 rfl) ?_
        obtain ⟨b15, h⟩ := q_if h
        exact q_zret h C0 hr (q_nz b15) hlk hw dX9_statement_320
      · replace h := q_f h c13
        refine lv_aload_n hx hb dX9_statement_303 rfl (lv_at hl 1 rfl) ?_
        refine gt_X9_25 C0 hw hk iX9_statement_X9 (by decide +kernel) dX9_statement_304 ?_
        refine lv_iconst (v := (0 : Int32)) hx hb dX9_statement_307 (by decide) ?_
        obtain ⟨b16, h⟩ := q_if h
        refine q_iald (t0 := 0) C0 hw (mN_13 hk) (mE_13 hk) rfl b16 dX9_statement_308 ?_
        refine lv_goto (tgt := 316) hx hb dX9_statement_309 (by decide) ?_
        refine pt_X9_17 C0 hw hk iX9_statement_X9 (by decide +kernel) dX9_statement_316 (fun σ17 H locs e_σ17 hw => ?_)
        replace h := q_let_at e_σ17 h
        refine lv_iload_n hx hb dX9_statement_319 rfl (lv_at hl 0 rfl) ?_
        obtain ⟨b18, h⟩ := q_if h
        exact q_zret h C0 hr (q_nz b18) hlk hw dX9_statement_320
  · replace h := q_f h c2
    refine lv_aload_n hx hb dX9_statement_229 rfl (lv_at hl 0 rfl) ?_
    refine va_ldcS hx hb hown (q_Zr2 hw 5 (by decide)) dX9_statement_230 ?_
    refine lv_iconst (v := (0 : Int32)) hx hb dX9_statement_232 (by decide) ?_
    refine lv_iconst (v := (0 : Int32)) hx hb dX9_statement_233 (by decide) ?_
    refine lv_aload_n hx hb dX9_statement_234 rfl (lv_at hl 0 rfl) ?_
    obtain ⟨o19, hco19, h⟩ := q_bind h
    refine q_calli hw (va_runV (As := []) (rest := [.int (0 : Int32), .int (0 : Int32), .ref (adK 5), .ref (ad k)]) C0 (kX9_many hk hco19 _) (cwV 0 hts gX9_statement_X9_many rfl rfl rfl eX9_many ⟨(Nat.le_of_ble_eq_true rfl), (Nat.le_of_ble_eq_true rfl)⟩) ⟨q_blind, q_recv hw (mN_0 hk) (mE_0 hk) rfl, q_pre hw⟩ rfl rfl hl.1 rfl (lv_room (Nat.le_of_ble_eq_true rfl)) dX9_statement_235 ⟨Nat.zero_le _, Nat.zero_le _⟩) (fun H locs hw => ?_)
    refine lv_iconst (v := (1 : Int32)) hx hb dX9_statement_238 (by decide) ?_
    refine lv_isub hx hb dX9_statement_239 ?_
    obtain ⟨o20, hco20, h⟩ := q_bind h
    refine q_calli hw (va_runV (As := [.ref (adK 5), .int (0 : Int32), .int (0 : Int32), .int (o19.1 - (1 : Int32))]) (rest := []) C0 (kX9_tells hk (by decide) hco20 _) (cwV 4 hts gX9_statement_X9_tells rfl rfl rfl eX9_tells ⟨(Nat.le_of_ble_eq_true rfl), (Nat.le_of_ble_eq_true rfl)⟩) ⟨q_blind, q_recv hw (mN_0 hk) (mE_0 hk) rfl, q_pre hw⟩ rfl rfl hl.1 rfl (lv_room (Nat.le_of_ble_eq_true rfl)) dX9_statement_240 ⟨Nat.zero_le _, Nat.zero_le _⟩) (fun H locs hw => ?_)
    refine lv_if_eq (tgt := 257) hx hb dX9_statement_243 (by decide) (fun c21 => ?_) (fun c21 => ?_)
    · replace h := q_t h c21
      refine lv_iconst (v := (0 : Int32)) hx hb dX9_statement_257 (by decide) ?_
      exact q_zret h C0 hr rfl hlk hw dX9_statement_258
    · replace h := q_f h c21
      refine lv_aload_n hx hb dX9_statement_246 rfl (lv_at hl 0 rfl) ?_
      refine lv_iconst (v := (1 : Int32)) hx hb dX9_statement_247 (by decide) ?_
      refine lv_iconst (v := (0 : Int32)) hx hb dX9_statement_248 (by decide) ?_
      refine lv_bipush (v := (9 : Int32)) hx hb dX9_statement_249 (by decide) ?_
      obtain ⟨o22, hco22, h⟩ := q_bind h
      refine q_calli hw (va_runV (As := [.int (1 : Int32), .int (0 : Int32), .int (9 : Int32)]) (rest := []) C0 (kX9_number hk hco22 _) (cwV 3 hts gX9_statement_X9_number rfl rfl rfl eX9_number ⟨(Nat.le_of_ble_eq_true rfl), (Nat.le_of_ble_eq_true rfl)⟩) ⟨q_blind, q_recv hw (mN_0 hk) (mE_0 hk) rfl, q_pre hw⟩ rfl rfl hl.1 rfl (lv_room (Nat.le_of_ble_eq_true rfl)) dX9_statement_251 ⟨Nat.zero_le _, Nat.zero_le _⟩) (fun H locs hw => ?_)
      refine lv_if_ne (tgt := 259) hx hb dX9_statement_254 (by decide) (fun c23 => ?_) (fun c23 => ?_)
      · replace h := q_f h c23
        refine lv_aload_n hx hb dX9_statement_259 rfl (lv_at hl 0 rfl) ?_
        refine gt_X9_16 C0 hw hk iX9_statement_X9 (by decide +kernel) dX9_statement_260 ?_
        refine lv_aload_n hx hb dX9_statement_263 rfl (lv_at hl 0 rfl) ?_
        refine gt_X9_25 C0 hw hk iX9_statement_X9 (by decide +kernel) dX9_statement_264 ?_
        refine lv_iconst (v := (0 : Int32)) hx hb dX9_statement_267 (by decide) ?_
        obtain ⟨b24, h⟩ := q_if h
        refine q_iald (t0 := 0) C0 hw (mN_13 hk) (mE_13 hk) rfl b24 dX9_statement_268 ?_
        refine lv_aload_n hx hb dX9_statement_269 rfl (lv_at hl 0 rfl) ?_
        refine gt_X9_25 C0 hw hk iX9_statement_X9 (by decide +kernel) dX9_statement_270 ?_
        refine lv_iconst (v := (1 : Int32)) hx hb dX9_statement_273 (by decide) ?_
        obtain ⟨b25, h⟩ := q_if h
        refine q_iald (t0 := 0) C0 hw (mN_13 hk) (mE_13 hk) rfl b25 dX9_statement_274 ?_
        obtain ⟨b26, h⟩ := q_if h
        refine q_iast (t0 := 0) C0 hw (mN_12 hk) (mE_12 hk) rfl b26 dX9_statement_275 (fun σ27 H locs e_σ27 hw => ?_)
        replace h := q_let_at e_σ27 h
        refine lv_iconst (v := (1 : Int32)) hx hb dX9_statement_276 (by decide) ?_
        exact q_zret h C0 hr rfl hlk hw dX9_statement_277
      · replace h := q_t h c23
        refine lv_iconst (v := (0 : Int32)) hx hb dX9_statement_257 (by decide) ?_
        exact q_zret h C0 hr rfl hlk hw dX9_statement_258
set_option maxHeartbeats 4000000 in
set_option maxRecDepth 100000 in
theorem tX9_statement_c173 {k : Nat} (hk : mB N k) (C0 : CallFix p m c cX9_statement 2 s args wsX9_statement RX9) (hr : meth.sig.returnType = (some .boolean)) (hlk : meth.locks = false) {out : Int32 × q_M}  : ∀  (σ : q_M) (H : Heap) (locs : List Loc) (ls : Array Slot), q_H (gM D cI cJ cR ad adK adV N) (q_A (gM D cI cJ cR ad adK adV N) s.heap.size) s σ H locs → lv_has ls 2 [(0, .ref (ad k))] → fX9_statement_c173 k  σ = some out → W p l e { frames := 7, cells := 0, slots := 0, locals := 152 } s m args below meth c H locs 0 0 (MQ below (q_Ri (gM D cI cJ cR ad adK adV N) (q_A (gM D cI cJ cR ad adK adV N) s.heap.size) out) args s 0 0 (q_A (gM D cI cJ cR ad adK adV N) s.heap.size)) (F0 m 173 ls []) := by
  obtain ⟨hx, hb, hml, hown, hts⟩ := id C0
  intro  σ H locs ls  hw hl h
  unfold fX9_statement_c173 at h
  refine lv_aload_n hx hb dX9_statement_173 rfl (lv_at hl 0 rfl) ?_
  refine va_ldcS hx hb hown (q_Zr2 hw 4 (by decide)) dX9_statement_174 ?_
  obtain ⟨o1, hco1, h⟩ := q_bind h
  refine q_calli hw (va_runV (As := [.ref (adK 4)]) (rest := []) C0 (kX9_isWord hk (by decide) hco1 _) (cwV 1 hts gX9_statement_X9_isWord rfl rfl rfl eX9_isWord ⟨(Nat.le_of_ble_eq_true rfl), (Nat.le_of_ble_eq_true rfl)⟩) ⟨q_blind, q_recv hw (mN_0 hk) (mE_0 hk) rfl, q_pre hw⟩ rfl rfl hl.1 rfl (lv_room (Nat.le_of_ble_eq_true rfl)) dX9_statement_176 ⟨Nat.zero_le _, Nat.zero_le _⟩) (fun H locs hw => ?_)
  refine lv_if_eq (tgt := 220) hx hb dX9_statement_179 (by decide) (fun c2 => ?_) (fun c2 => ?_)
  · replace h := q_t h c2
    exact tX9_statement_c220 hk C0 hr hlk o1.2 _ _ _ hw (lv_sub hl [0] rfl) h
  · replace h := q_f h c2
    refine lv_aload_n hx hb dX9_statement_182 rfl (lv_at hl 0 rfl) ?_
    refine gt_X9_13 C0 hw hk iX9_statement_X9 (by decide +kernel) dX9_statement_183 ?_
    refine lv_if_le (tgt := 220) hx hb dX9_statement_186 (by decide) (fun c3 => ?_) (fun c3 => ?_)
    · replace h := q_t h c3
      exact tX9_statement_c220 hk C0 hr hlk o1.2 _ _ _ hw (lv_sub hl [0] rfl) h
    · replace h := q_f h c3
      refine lv_aload_n hx hb dX9_statement_189 rfl (lv_at hl 0 rfl) ?_
      refine va_ldcS hx hb hown (q_Zr2 hw 4 (by decide)) dX9_statement_190 ?_
      obtain ⟨o4, hco4, h⟩ := q_bind h
      refine q_calli hw (va_runV (As := [.ref (adK 4)]) (rest := []) C0 (kX9_span hk (by decide) hco4 _) (cwV 1 hts gX9_statement_X9_span rfl rfl rfl eX9_span ⟨(Nat.le_of_ble_eq_true rfl), (Nat.le_of_ble_eq_true rfl)⟩) ⟨q_blind, q_recv hw (mN_0 hk) (mE_0 hk) rfl, q_pre hw⟩ rfl rfl hl.1 rfl (lv_room (Nat.le_of_ble_eq_true rfl)) dX9_statement_192 ⟨Nat.zero_le _, Nat.zero_le _⟩) (fun H locs hw => ?_)
      refine lv_if_ne (tgt := 200) hx hb dX9_statement_195 (by decide) (fun c5 => ?_) (fun c5 => ?_)
      · replace h := q_f h c5
        refine lv_aload_n hx hb dX9_statement_200 rfl (lv_at hl 0 rfl) ?_
        refine gt_X9_14 C0 hw hk iX9_statement_X9 (by decide +kernel) dX9_statement_201 ?_
        refine lv_aload_n hx hb dX9_statement_204 rfl (lv_at hl 0 rfl) ?_
        refine gt_X9_13 C0 hw hk iX9_statement_X9 (by decide +kernel) dX9_statement_205 ?_
        refine lv_iconst (v := (1 : Int32)) hx hb dX9_statement_208 (by decide) ?_
        refine lv_isub hx hb dX9_statement_209 ?_
        refine lv_dup2_11 hx hb dX9_statement_210 rfl rfl ?_
        obtain ⟨b6, h⟩ := q_if h
        refine q_lald (t0 := 1) C0 hw (mN_11 hk) (mE_11 hk) rfl b6 dX9_statement_211 ?_
        refine lv_aload_n hx hb dX9_statement_212 rfl (lv_at hl 0 rfl) ?_
        obtain ⟨o7, hco7, h⟩ := q_bind h
        refine q_calll hw (va_runV (As := []) (rest := [.long (o4.2.2 (k + 11) ((o4.2.1 k 13) - (1 : Int32)).toNatClampNeg), .int ((o4.2.1 k 13) - (1 : Int32)), .ref (ad (k + 11))]) C0 (kX9_between hk hco7 _) (cwV 0 hts gX9_statement_X9_between rfl rfl rfl eX9_between ⟨(Nat.le_of_ble_eq_true rfl), (Nat.le_of_ble_eq_true rfl)⟩) ⟨q_blind, q_recv hw (mN_0 hk) (mE_0 hk) rfl, q_pre hw⟩ rfl rfl hl.1 rfl (lv_room (Nat.le_of_ble_eq_true rfl)) dX9_statement_213 ⟨Nat.zero_le _, Nat.zero_le _⟩) (fun H locs hw => ?_)
        refine lv_lor hx hb dX9_statement_216 ?_
        obtain ⟨b8, h⟩ := q_if h
        refine q_last (t0 := 1) C0 hw (mN_11 hk) (mE_11 hk) rfl b8 dX9_statement_217 (fun σ9 H locs e_σ9 hw => ?_)
        replace h := q_let_at e_σ9 h
        refine lv_iconst (v := (1 : Int32)) hx hb dX9_statement_218 (by decide) ?_
        exact q_zret h C0 hr rfl hlk hw dX9_statement_219
      · replace h := q_t h c5
        refine lv_iconst (v := (0 : Int32)) hx hb dX9_statement_198 (by decide) ?_
        exact q_zret h C0 hr rfl hlk hw dX9_statement_199
set_option maxHeartbeats 4000000 in
set_option maxRecDepth 100000 in
theorem kX9_statement {k : Nat} (hk : mB N k) {σ : q_M} {out : Int32 × q_M} (h : fX9_statement k σ = some out) : q_Mi l (gM D cI cJ cR ad adK adV N) yX9_statement wsX9_statement { frames := 7, cells := 0, slots := 0, locals := 152 } [.ref (ad k)] σ out := by
  refine q_Mi_of (cc := cX9_statement) (maxL := 2) (ret := (some .boolean)) (by decide) rfl (Nat.le_of_ble_eq_true rfl) ?_
  intro p e s m below meth c ls C0 hr hlk hl hw
  obtain ⟨hx, hb, hml, hown, hts⟩ := id C0
  replace hl : lv_has ls 2 [(0, .ref (ad k))] := hl
  unfold fX9_statement at h
  refine lv_aload_n hx hb dX9_statement_0 rfl (lv_at hl 0 rfl) ?_
  refine va_ldcS hx hb hown (q_Zr2 hw 0 (by decide)) dX9_statement_1 ?_
  obtain ⟨o1, hco1, h⟩ := q_bind h
  refine q_calli hw (va_runV (As := [.ref (adK 0)]) (rest := []) C0 (kX9_isWord hk (by decide) hco1 _) (cwV 1 hts gX9_statement_X9_isWord rfl rfl rfl eX9_isWord ⟨(Nat.le_of_ble_eq_true rfl), (Nat.le_of_ble_eq_true rfl)⟩) ⟨q_blind, q_recv hw (mN_0 hk) (mE_0 hk) rfl, q_pre hw⟩ rfl rfl hl.1 rfl (lv_room (Nat.le_of_ble_eq_true rfl)) dX9_statement_3 ⟨Nat.zero_le _, Nat.zero_le _⟩) (fun H locs hw => ?_)
  refine lv_if_eq (tgt := 35) hx hb dX9_statement_6 (by decide) (fun c2 => ?_) (fun c2 => ?_)
  · replace h := q_t h c2
    refine lv_aload_n hx hb dX9_statement_35 rfl (lv_at hl 0 rfl) ?_
    refine va_ldcS hx hb hown (q_Zr2 hw 1 (by decide)) dX9_statement_36 ?_
    obtain ⟨o3, hco3, h⟩ := q_bind h
    refine q_calli hw (va_runV (As := [.ref (adK 1)]) (rest := []) C0 (kX9_isWord hk (by decide) hco3 _) (cwV 1 hts gX9_statement_X9_isWord rfl rfl rfl eX9_isWord ⟨(Nat.le_of_ble_eq_true rfl), (Nat.le_of_ble_eq_true rfl)⟩) ⟨q_blind, q_recv hw (mN_0 hk) (mE_0 hk) rfl, q_pre hw⟩ rfl rfl hl.1 rfl (lv_room (Nat.le_of_ble_eq_true rfl)) dX9_statement_38 ⟨Nat.zero_le _, Nat.zero_le _⟩) (fun H locs hw => ?_)
    refine lv_if_ne (tgt := 53) hx hb dX9_statement_41 (by decide) (fun c4 => ?_) (fun c4 => ?_)
    · replace h := q_f h c4
      exact tX9_statement_c53 hk C0 hr hlk o3.2 _ _ _ hw (lv_sub hl [0] rfl) h
    · replace h := q_t h c4
      refine lv_aload_n hx hb dX9_statement_44 rfl (lv_at hl 0 rfl) ?_
      refine va_ldcS hx hb hown (q_Zr2 hw 2 (by decide)) dX9_statement_45 ?_
      obtain ⟨o5, hco5, h⟩ := q_bind h
      refine q_calli hw (va_runV (As := [.ref (adK 2)]) (rest := []) C0 (kX9_isWord hk (by decide) hco5 _) (cwV 1 hts gX9_statement_X9_isWord rfl rfl rfl eX9_isWord ⟨(Nat.le_of_ble_eq_true rfl), (Nat.le_of_ble_eq_true rfl)⟩) ⟨q_blind, q_recv hw (mN_0 hk) (mE_0 hk) rfl, q_pre hw⟩ rfl rfl hl.1 rfl (lv_room (Nat.le_of_ble_eq_true rfl)) dX9_statement_47 ⟨Nat.zero_le _, Nat.zero_le _⟩) (fun H locs hw => ?_)
      refine lv_if_eq (tgt := 115) hx hb dX9_statement_50 (by decide) (fun c6 => ?_) (fun c6 => ?_)
      · replace h := q_t h c6
        refine lv_aload_n hx hb dX9_statement_115 rfl (lv_at hl 0 rfl) ?_
        refine va_ldcS hx hb hown (q_Zr2 hw 3 (by decide)) dX9_statement_116 ?_
        obtain ⟨o7, hco7, h⟩ := q_bind h
        refine q_calli hw (va_runV (As := [.ref (adK 3)]) (rest := []) C0 (kX9_isWord hk (by decide) hco7 _) (cwV 1 hts gX9_statement_X9_isWord rfl rfl rfl eX9_isWord ⟨(Nat.le_of_ble_eq_true rfl), (Nat.le_of_ble_eq_true rfl)⟩) ⟨q_blind, q_recv hw (mN_0 hk) (mE_0 hk) rfl, q_pre hw⟩ rfl rfl hl.1 rfl (lv_room (Nat.le_of_ble_eq_true rfl)) dX9_statement_118 ⟨Nat.zero_le _, Nat.zero_le _⟩) (fun H locs hw => ?_)
        refine lv_if_eq (tgt := 173) hx hb dX9_statement_121 (by decide) (fun c8 => ?_) (fun c8 => ?_)
        · replace h := q_t h c8
          exact tX9_statement_c173 hk C0 hr hlk o7.2 _ _ _ hw (lv_sub hl [0] rfl) h
        · replace h := q_f h c8
          refine lv_aload_n hx hb dX9_statement_124 rfl (lv_at hl 0 rfl) ?_
          refine gt_X9_13 C0 hw hk iX9_statement_X9 (by decide +kernel) dX9_statement_125 ?_
          refine lv_bipush (v := (8 : Int32)) hx hb dX9_statement_128 (by decide) ?_
          refine lv_icmp_ge (tgt := 173) hx hb dX9_statement_130 (by decide) (fun c9 => ?_) (fun c9 => ?_)
          · replace h := q_t h c9
            exact tX9_statement_c173 hk C0 hr hlk o7.2 _ _ _ hw (lv_sub hl [0] rfl) h
          · replace h := q_f h c9
            refine lv_aload_n hx hb dX9_statement_133 rfl (lv_at hl 0 rfl) ?_
            obtain ⟨o10, hco10, h⟩ := q_bind h
            refine q_callv hw (va_runV (As := []) (rest := []) C0 (kX9_look hk hco10 _) (cwV 0 hts gX9_statement_X9_look rfl rfl rfl eX9_look ⟨(Nat.le_of_ble_eq_true rfl), (Nat.le_of_ble_eq_true rfl)⟩) ⟨q_blind, q_recv hw (mN_0 hk) (mE_0 hk) rfl, q_pre hw⟩ rfl rfl hl.1 rfl (lv_room (Nat.le_of_ble_eq_true rfl)) dX9_statement_134 ⟨Nat.zero_le _, Nat.zero_le _⟩) (fun H locs hw => ?_)
            refine lv_aload_n hx hb dX9_statement_137 rfl (lv_at hl 0 rfl) ?_
            refine lv_dup hx hb dX9_statement_138 rfl ?_
            refine gt_X9_15 C0 hw hk iX9_statement_X9 (by decide +kernel) dX9_statement_139 ?_
            refine lv_iconst (v := (1 : Int32)) hx hb dX9_statement_142 (by decide) ?_
            refine lv_aload_n hx hb dX9_statement_143 rfl (lv_at hl 0 rfl) ?_
            refine gt_X9_13 C0 hw hk iX9_statement_X9 (by decide +kernel) dX9_statement_144 ?_
            refine q_ishl (v := (q_sl (1 : Int32) (o10.1 k 13))) C0 dX9_statement_147 rfl ?_
            refine lv_iconst (v := (-1 : Int32)) hx hb dX9_statement_148 (by decide) ?_
            refine lv_ixor hx hb dX9_statement_149 ?_
            refine lv_iand hx hb dX9_statement_150 ?_
            refine pt_X9_15 C0 hw hk iX9_statement_X9 (by decide +kernel) dX9_statement_151 (fun σ11 H locs e_σ11 hw => ?_)
            replace h := q_let_at e_σ11 h
            refine lv_aload_n hx hb dX9_statement_154 rfl (lv_at hl 0 rfl) ?_
            refine gt_X9_14 C0 hw hk iX9_statement_X9 (by decide +kernel) dX9_statement_155 ?_
            refine lv_aload_n hx hb dX9_statement_158 rfl (lv_at hl 0 rfl) ?_
            refine lv_dup hx hb dX9_statement_159 rfl ?_
            refine gt_X9_13 C0 hw hk iX9_statement_X9 (by decide +kernel) dX9_statement_160 ?_
            refine lv_dup_x1 hx hb dX9_statement_163 rfl rfl ?_
            refine lv_iconst (v := (1 : Int32)) hx hb dX9_statement_164 (by decide) ?_
            refine lv_iadd hx hb dX9_statement_165 ?_
            refine pt_X9_13 C0 hw hk iX9_statement_X9 (by decide +kernel) dX9_statement_166 (fun σ12 H locs e_σ12 hw => ?_)
            replace h := q_let_at e_σ12 h
            refine lv_lconst (v := (0 : Int64)) hx hb dX9_statement_169 (by decide) ?_
            obtain ⟨b13, h⟩ := q_if h
            refine q_last (t0 := 1) C0 hw (mN_11 hk) (mE_11 hk) rfl b13 dX9_statement_170 (fun σ14 H locs e_σ14 hw => ?_)
            replace h := q_let_at e_σ14 h
            refine lv_iconst (v := (1 : Int32)) hx hb dX9_statement_171 (by decide) ?_
            exact q_zret h C0 hr rfl hlk hw dX9_statement_172
      · replace h := q_f h c6
        exact tX9_statement_c53 hk C0 hr hlk o5.2 _ _ _ hw (lv_sub hl [0] rfl) h
  · replace h := q_f h c2
    refine lv_aload_n hx hb dX9_statement_9 rfl (lv_at hl 0 rfl) ?_
    refine va_ldcS hx hb hown (q_Zr2 hw 0 (by decide)) dX9_statement_10 ?_
    refine lv_iconst (v := (0 : Int32)) hx hb dX9_statement_12 (by decide) ?_
    refine lv_iconst (v := (2 : Int32)) hx hb dX9_statement_13 (by decide) ?_
    refine lv_iconst (v := (4 : Int32)) hx hb dX9_statement_14 (by decide) ?_
    obtain ⟨o15, hco15, h⟩ := q_bind h
    refine q_calli hw (va_runV (As := [.ref (adK 0), .int (0 : Int32), .int (2 : Int32), .int (4 : Int32)]) (rest := []) C0 (kX9_tells hk (by decide) hco15 _) (cwV 4 hts gX9_statement_X9_tells rfl rfl rfl eX9_tells ⟨(Nat.le_of_ble_eq_true rfl), (Nat.le_of_ble_eq_true rfl)⟩) ⟨q_blind, q_recv hw (mN_0 hk) (mE_0 hk) rfl, q_pre hw⟩ rfl rfl hl.1 rfl (lv_room (Nat.le_of_ble_eq_true rfl)) dX9_statement_15 ⟨Nat.zero_le _, Nat.zero_le _⟩) (fun H locs hw => ?_)
    refine lv_istore_n (lv' := [(1, .int o15.1), (0, .ref (ad k))]) hx hb dX9_statement_18 rfl hl (by decide) rfl (fun ls hl => ?_)
    refine lv_iload_n hx hb dX9_statement_19 rfl (lv_at hl 0 rfl) ?_
    refine lv_if_eq (tgt := 33) hx hb dX9_statement_20 (by decide) (fun c16 => ?_) (fun c16 => ?_)
    · replace h := q_t h c16
      refine lv_iload_n hx hb dX9_statement_33 rfl (lv_at hl 0 rfl) ?_
      obtain ⟨b17, h⟩ := q_if h
      exact q_zret h C0 hr (q_nz b17) hlk hw dX9_statement_34
    · replace h := q_f h c16
      refine lv_aload_n hx hb dX9_statement_23 rfl (lv_at hl 1 rfl) ?_
      refine lv_aload_n hx hb dX9_statement_24 rfl (lv_at hl 1 rfl) ?_
      refine gt_X9_25 C0 hw hk iX9_statement_X9 (by decide +kernel) dX9_statement_25 ?_
      refine lv_iconst (v := (0 : Int32)) hx hb dX9_statement_28 (by decide) ?_
      obtain ⟨b18, h⟩ := q_if h
      refine q_iald (t0 := 0) C0 hw (mN_13 hk) (mE_13 hk) rfl b18 dX9_statement_29 ?_
      obtain ⟨o19, hco19, h⟩ := q_bind h
      refine q_callv hw (va_runV (As := [.int (o15.2.1 (k + 13) (0 : Int32).toNatClampNeg)]) (rest := []) C0 (kX9_newSize hk hco19 _) (cwV 1 hts gX9_statement_X9_newSize rfl rfl rfl eX9_newSize ⟨(Nat.le_of_ble_eq_true rfl), (Nat.le_of_ble_eq_true rfl)⟩) ⟨q_blind, q_recv hw (mN_0 hk) (mE_0 hk) rfl, q_pre hw⟩ rfl rfl hl.1 rfl (lv_room (Nat.le_of_ble_eq_true rfl)) dX9_statement_30 ⟨Nat.zero_le _, Nat.zero_le _⟩) (fun H locs hw => ?_)
      refine lv_iload_n hx hb dX9_statement_33 rfl (lv_at hl 0 rfl) ?_
      obtain ⟨b20, h⟩ := q_if h
      exact q_zret h C0 hr (q_nz b20) hlk hw dX9_statement_34
-- X9_readAll readAll()Z
theorem iX9_readAll_X9 : ∀ w ∈ wsX90, w ∈ wsX9_readAll := by decide +kernel
theorem eX9_statement : yX9_statement.cls = RX9 ∧ yX9_statement.cls ≠ "java/lang/invoke/MethodHandle" ∧ yX9_statement.cls ≠ "java/lang/invoke/VarHandle" ∧ (parseMethodDescriptor yX9_statement.desc).map (fun d => d.parameters.length) = some 0 := by decide +kernel
set_option maxHeartbeats 4000000 in
set_option maxRecDepth 100000 in
theorem tX9_readAll_c23 {k : Nat} (hk : mB N k) (C0 : CallFix p m c cX9_readAll 1 s args wsX9_readAll RX9) (hr : meth.sig.returnType = (some .boolean)) (hlk : meth.locks = false) {out : Int32 × q_M}  : ∀ n : Nat, ∀  (σ : q_M) (H : Heap) (locs : List Loc) (ls : Array Slot), q_H (gM D cI cJ cR ad adK adV N) (q_A (gM D cI cJ cR ad adK adV N) s.heap.size) s σ H locs → lv_has ls 1 [(0, .ref (ad k))] → fX9_readAll_c23 k n  σ = some out → W p l e { frames := 8, cells := 0, slots := 0, locals := 173 } s m args below meth c H locs 0 0 (MQ below (q_Ri (gM D cI cJ cR ad adK adV N) (q_A (gM D cI cJ cR ad adK adV N) s.heap.size) out) args s 0 0 (q_A (gM D cI cJ cR ad adK adV N) s.heap.size)) (F0 m 23 ls []) := by
  obtain ⟨hx, hb, hml, hown, hts⟩ := id C0
  intro n
  induction n with
  | zero =>
    intro  σ H locs ls  hw hl h
    cases (show (none : Option (Int32 × q_M)) = some out from h)
  | succ n hrec23 =>
    intro  σ H locs ls  hw hl h
    replace h : fX9_readAll_c23b k (fX9_readAll_c23 k n)  σ = some out := h
    unfold fX9_readAll_c23b at h
    refine lv_aload_n hx hb dX9_readAll_23 rfl (lv_at hl 0 rfl) ?_
    refine gt_X9_21 C0 hw hk iX9_readAll_X9 (by decide +kernel) dX9_readAll_24 ?_
    refine lv_if_eq (tgt := 69) hx hb dX9_readAll_27 (by decide) (fun c1 => ?_) (fun c1 => ?_)
    · replace h := q_t h c1
      refine lv_iconst (v := (1 : Int32)) hx hb dX9_readAll_69 (by decide) ?_
      exact q_zret h C0 hr rfl hlk hw dX9_readAll_70
    · replace h := q_f h c1
      refine lv_aload_n hx hb dX9_readAll_30 rfl (lv_at hl 0 rfl) ?_
      refine gt_X9_21 C0 hw hk iX9_readAll_X9 (by decide +kernel) dX9_readAll_31 ?_
      refine lv_iconst (v := (3 : Int32)) hx hb dX9_readAll_34 (by decide) ?_
      refine lv_icmp_eq (tgt := 43) hx hb dX9_readAll_35 (by decide) (fun c2 => ?_) (fun c2 => ?_)
      · replace h := q_t h c2
        refine lv_aload_n hx hb dX9_readAll_43 rfl (lv_at hl 0 rfl) ?_
        obtain ⟨o3, hco3, h⟩ := q_bind h
        refine q_callv hw (va_runV (As := []) (rest := []) C0 (kX9_look hk hco3 _) (cwV 0 hts gX9_readAll_X9_look rfl rfl rfl eX9_look ⟨(Nat.le_of_ble_eq_true rfl), (Nat.le_of_ble_eq_true rfl)⟩) ⟨q_blind, q_recv hw (mN_0 hk) (mE_0 hk) rfl, q_pre hw⟩ rfl rfl hl.1 rfl (lv_room (Nat.le_of_ble_eq_true rfl)) dX9_readAll_44 ⟨Nat.zero_le _, Nat.zero_le _⟩) (fun H locs hw => ?_)
        refine lv_aload_n hx hb dX9_readAll_47 rfl (lv_at hl 0 rfl) ?_
        obtain ⟨o4, hco4, h⟩ := q_bind h
        refine q_calli hw (va_runV (As := []) (rest := []) C0 (kX9_statement hk hco4 _) (cwV 0 hts gX9_readAll_X9_statement rfl rfl rfl eX9_statement ⟨(Nat.le_of_ble_eq_true rfl), (Nat.le_of_ble_eq_true rfl)⟩) ⟨q_blind, q_recv hw (mN_0 hk) (mE_0 hk) rfl, q_pre hw⟩ rfl rfl hl.1 rfl (lv_room (Nat.le_of_ble_eq_true rfl)) dX9_readAll_48 ⟨Nat.zero_le _, Nat.zero_le _⟩) (fun H locs hw => ?_)
        refine lv_if_ne (tgt := 56) hx hb dX9_readAll_51 (by decide) (fun c5 => ?_) (fun c5 => ?_)
        · replace h := q_f h c5
          refine lv_aload_n hx hb dX9_readAll_56 rfl (lv_at hl 0 rfl) ?_
          refine lv_dup hx hb dX9_readAll_57 rfl ?_
          refine gt_X9_26 C0 hw hk iX9_readAll_X9 (by decide +kernel) dX9_readAll_58 ?_
          refine lv_iconst (v := (1 : Int32)) hx hb dX9_readAll_61 (by decide) ?_
          refine lv_iadd hx hb dX9_readAll_62 ?_
          refine pt_X9_26 C0 hw hk iX9_readAll_X9 (by decide +kernel) dX9_readAll_63 (fun σ6 H locs e_σ6 hw => ?_)
          replace h := q_let_at e_σ6 h
          refine lv_goto (tgt := 23) hx hb dX9_readAll_66 (by decide) ?_
          exact hrec23 σ6 _ _ _ hw (lv_sub hl [0] rfl) h
        · replace h := q_t h c5
          refine lv_iconst (v := (0 : Int32)) hx hb dX9_readAll_54 (by decide) ?_
          exact q_zret h C0 hr rfl hlk hw dX9_readAll_55
      · replace h := q_f h c2
        refine lv_aload_n hx hb dX9_readAll_38 rfl (lv_at hl 0 rfl) ?_
        obtain ⟨o7, hco7, h⟩ := q_bind h
        refine q_calli hw (va_runV (As := []) (rest := []) C0 (kX9_isWrong hk hco7 _) (cwV 0 hts gX9_readAll_X9_isWrong rfl rfl rfl eX9_isWrong ⟨(Nat.le_of_ble_eq_true rfl), (Nat.le_of_ble_eq_true rfl)⟩) ⟨q_blind, q_recv hw (mN_0 hk) (mE_0 hk) rfl, q_pre hw⟩ rfl rfl hl.1 rfl (lv_room (Nat.le_of_ble_eq_true rfl)) dX9_readAll_39 ⟨Nat.zero_le _, Nat.zero_le _⟩) (fun H locs hw => ?_)
        obtain ⟨b8, h⟩ := q_if h
        exact q_zret h C0 hr (q_nz b8) hlk hw dX9_readAll_42
set_option maxHeartbeats 4000000 in
set_option maxRecDepth 100000 in
theorem kX9_readAll {k : Nat} (hk : mB N k) {σ : q_M} {out : Int32 × q_M} (h : fX9_readAll k σ = some out) : q_Mi l (gM D cI cJ cR ad adK adV N) yX9_readAll wsX9_readAll { frames := 8, cells := 0, slots := 0, locals := 173 } [.ref (ad k)] σ out := by
  refine q_Mi_of (cc := cX9_readAll) (maxL := 1) (ret := (some .boolean)) (by decide) rfl (Nat.le_of_ble_eq_true rfl) ?_
  intro p e s m below meth c ls C0 hr hlk hl hw
  obtain ⟨hx, hb, hml, hown, hts⟩ := id C0
  replace hl : lv_has ls 1 [(0, .ref (ad k))] := hl
  unfold fX9_readAll at h
  refine lv_aload_n hx hb dX9_readAll_0 rfl (lv_at hl 0 rfl) ?_
  refine lv_iconst (v := (1 : Int32)) hx hb dX9_readAll_1 (by decide) ?_
  refine pt_X9_26 C0 hw hk iX9_readAll_X9 (by decide +kernel) dX9_readAll_2 (fun σ1 H locs e_σ1 hw => ?_)
  replace h := q_let_at e_σ1 h
  refine lv_aload_n hx hb dX9_readAll_5 rfl (lv_at hl 0 rfl) ?_
  refine lv_iconst (v := (0 : Int32)) hx hb dX9_readAll_6 (by decide) ?_
  refine pt_X9_20 C0 hw hk iX9_readAll_X9 (by decide +kernel) dX9_readAll_7 (fun σ2 H locs e_σ2 hw => ?_)
  replace h := q_let_at e_σ2 h
  refine lv_aload_n hx hb dX9_readAll_10 rfl (lv_at hl 0 rfl) ?_
  obtain ⟨o3, hco3, h⟩ := q_bind h
  refine q_callv hw (va_runV (As := []) (rest := []) C0 (kX9_look hk hco3 _) (cwV 0 hts gX9_readAll_X9_look rfl rfl rfl eX9_look ⟨(Nat.le_of_ble_eq_true rfl), (Nat.le_of_ble_eq_true rfl)⟩) ⟨q_blind, q_recv hw (mN_0 hk) (mE_0 hk) rfl, q_pre hw⟩ rfl rfl hl.1 rfl (lv_room (Nat.le_of_ble_eq_true rfl)) dX9_readAll_11 ⟨Nat.zero_le _, Nat.zero_le _⟩) (fun H locs hw => ?_)
  refine lv_aload_n hx hb dX9_readAll_14 rfl (lv_at hl 0 rfl) ?_
  obtain ⟨o4, hco4, h⟩ := q_bind h
  refine q_calli hw (va_runV (As := []) (rest := []) C0 (kX9_statement hk hco4 _) (cwV 0 hts gX9_readAll_X9_statement rfl rfl rfl eX9_statement ⟨(Nat.le_of_ble_eq_true rfl), (Nat.le_of_ble_eq_true rfl)⟩) ⟨q_blind, q_recv hw (mN_0 hk) (mE_0 hk) rfl, q_pre hw⟩ rfl rfl hl.1 rfl (lv_room (Nat.le_of_ble_eq_true rfl)) dX9_readAll_15 ⟨Nat.zero_le _, Nat.zero_le _⟩) (fun H locs hw => ?_)
  refine lv_if_ne (tgt := 23) hx hb dX9_readAll_18 (by decide) (fun c5 => ?_) (fun c5 => ?_)
  · replace h := q_f h c5
    exact tX9_readAll_c23 hk C0 hr hlk q_FU o4.2 _ _ _ hw (lv_sub hl [0] rfl) h
  · replace h := q_t h c5
    refine lv_iconst (v := (0 : Int32)) hx hb dX9_readAll_21 (by decide) ?_
    exact q_zret h C0 hr rfl hlk hw dX9_readAll_22
-- X9_takeFrom takeFrom(LMouldThatComesOffModel;)V
theorem iX9_takeFrom_X9 : ∀ w ∈ wsX90, w ∈ wsX9_takeFrom := by decide +kernel
set_option maxHeartbeats 4000000 in
set_option maxRecDepth 100000 in
theorem tX9_takeFrom_c60 {k : Nat} {k1 : Nat} (hk : mB N k) (hk1 : mB N k1) (C0 : CallFix p m c cX9_takeFrom 3 s args wsX9_takeFrom RX9) (hr : meth.sig.returnType = none) (hlk : meth.locks = false) {out : q_M}  : ∀ n : Nat, ∀ (v2 : Int32) (σ : q_M) (H : Heap) (locs : List Loc) (ls : Array Slot), q_H (gM D cI cJ cR ad adK adV N) (q_A (gM D cI cJ cR ad adK adV N) s.heap.size) s σ H locs → lv_has ls 3 [(0, .ref (ad k)), (1, .ref (ad k1)), (2, .int v2)] → fX9_takeFrom_c60 k k1 n v2 σ = some out → W p l e { frames := 0, cells := 0, slots := 0, locals := 0 } s m args below meth c H locs 0 0 (MQ below (q_Rv (gM D cI cJ cR ad adK adV N) (q_A (gM D cI cJ cR ad adK adV N) s.heap.size) out) args s 0 0 (q_A (gM D cI cJ cR ad adK adV N) s.heap.size)) (F0 m 60 ls []) := by
  obtain ⟨hx, hb, hml, hown, hts⟩ := id C0
  intro n
  induction n with
  | zero =>
    intro v2 σ H locs ls  hw hl h
    cases (show (none : Option (q_M)) = some out from h)
  | succ n hrec60 =>
    intro v2 σ H locs ls  hw hl h
    replace h : fX9_takeFrom_c60b k k1 (fX9_takeFrom_c60 k k1 n) v2 σ = some out := h
    unfold fX9_takeFrom_c60b at h
    refine lv_iload_n hx hb dX9_takeFrom_60 rfl (lv_at hl 2 rfl) ?_
    refine lv_bipush (v := (64 : Int32)) hx hb dX9_takeFrom_61 (by decide) ?_
    refine lv_icmp_ge (tgt := 84) hx hb dX9_takeFrom_63 (by decide) (fun c1 => ?_) (fun c1 => ?_)
    · replace h := q_t h c1
      refine lv_aload_n hx hb dX9_takeFrom_84 rfl (lv_at hl 0 rfl) ?_
      refine lv_aload_n hx hb dX9_takeFrom_85 rfl (lv_at hl 1 rfl) ?_
      refine gt_X9_17 C0 hw hk1 iX9_takeFrom_X9 (by decide +kernel) dX9_takeFrom_86 ?_
      refine pt_X9_17 C0 hw hk iX9_takeFrom_X9 (by decide +kernel) dX9_takeFrom_89 (fun σ2 H locs e_σ2 hw => ?_)
      replace h := q_let_at e_σ2 h
      refine lv_aload_n hx hb dX9_takeFrom_92 rfl (lv_at hl 0 rfl) ?_
      refine lv_aload_n hx hb dX9_takeFrom_93 rfl (lv_at hl 1 rfl) ?_
      refine gt_X9_18 C0 hw hk1 iX9_takeFrom_X9 (by decide +kernel) dX9_takeFrom_94 ?_
      refine pt_X9_18 C0 hw hk iX9_takeFrom_X9 (by decide +kernel) dX9_takeFrom_97 (fun σ3 H locs e_σ3 hw => ?_)
      replace h := q_let_at e_σ3 h
      exact q_vret h C0 hr hlk hw dX9_takeFrom_100
    · replace h := q_f h c1
      refine lv_aload_n hx hb dX9_takeFrom_66 rfl (lv_at hl 0 rfl) ?_
      refine gt_X9_16 C0 hw hk iX9_takeFrom_X9 (by decide +kernel) dX9_takeFrom_67 ?_
      refine lv_iload_n hx hb dX9_takeFrom_70 rfl (lv_at hl 2 rfl) ?_
      refine lv_aload_n hx hb dX9_takeFrom_71 rfl (lv_at hl 1 rfl) ?_
      refine gt_X9_16 C0 hw hk1 iX9_takeFrom_X9 (by decide +kernel) dX9_takeFrom_72 ?_
      refine lv_iload_n hx hb dX9_takeFrom_75 rfl (lv_at hl 2 rfl) ?_
      obtain ⟨b4, h⟩ := q_if h
      refine q_iald (t0 := 0) C0 hw (mN_12 hk1) (mE_12 hk1) rfl b4 dX9_takeFrom_76 ?_
      obtain ⟨b5, h⟩ := q_if h
      refine q_iast (t0 := 0) C0 hw (mN_12 hk) (mE_12 hk) rfl b5 dX9_takeFrom_77 (fun σ6 H locs e_σ6 hw => ?_)
      replace h := q_let_at e_σ6 h
      refine lv_iinc (v := (v2 + (1 : Int32))) (lv' := [(2, .int (v2 + (1 : Int32))), (0, .ref (ad k)), (1, .ref (ad k1))]) hx hb dX9_takeFrom_78 hl (k := 2) rfl rfl (by decide) rfl (fun ls hl => ?_)
      refine lv_goto (tgt := 60) hx hb dX9_takeFrom_81 (by decide) ?_
      exact hrec60 (v2 + (1 : Int32)) σ6 _ _ _ hw (lv_sub hl [1, 2, 0] rfl) h
set_option maxHeartbeats 4000000 in
set_option maxRecDepth 100000 in
theorem tX9_takeFrom_c26 {k : Nat} {k1 : Nat} (hk : mB N k) (hk1 : mB N k1) (C0 : CallFix p m c cX9_takeFrom 3 s args wsX9_takeFrom RX9) (hr : meth.sig.returnType = none) (hlk : meth.locks = false) {out : q_M}  : ∀ n : Nat, ∀ (v2 : Int32) (σ : q_M) (H : Heap) (locs : List Loc) (ls : Array Slot), q_H (gM D cI cJ cR ad adK adV N) (q_A (gM D cI cJ cR ad adK adV N) s.heap.size) s σ H locs → lv_has ls 3 [(0, .ref (ad k)), (1, .ref (ad k1)), (2, .int v2)] → fX9_takeFrom_c26 k k1 n v2 σ = some out → W p l e { frames := 0, cells := 0, slots := 0, locals := 0 } s m args below meth c H locs 0 0 (MQ below (q_Rv (gM D cI cJ cR ad adK adV N) (q_A (gM D cI cJ cR ad adK adV N) s.heap.size) out) args s 0 0 (q_A (gM D cI cJ cR ad adK adV N) s.heap.size)) (F0 m 26 ls []) := by
  obtain ⟨hx, hb, hml, hown, hts⟩ := id C0
  intro n
  induction n with
  | zero =>
    intro v2 σ H locs ls  hw hl h
    cases (show (none : Option (q_M)) = some out from h)
  | succ n hrec26 =>
    intro v2 σ H locs ls  hw hl h
    replace h : fX9_takeFrom_c26b k k1 (fX9_takeFrom_c26 k k1 n) v2 σ = some out := h
    unfold fX9_takeFrom_c26b at h
    refine lv_iload_n hx hb dX9_takeFrom_26 rfl (lv_at hl 2 rfl) ?_
    refine lv_bipush (v := (8 : Int32)) hx hb dX9_takeFrom_27 (by decide) ?_
    refine lv_icmp_ge (tgt := 50) hx hb dX9_takeFrom_29 (by decide) (fun c1 => ?_) (fun c1 => ?_)
    · replace h := q_t h c1
      refine lv_aload_n hx hb dX9_takeFrom_50 rfl (lv_at hl 0 rfl) ?_
      refine lv_aload_n hx hb dX9_takeFrom_51 rfl (lv_at hl 1 rfl) ?_
      refine gt_X9_15 C0 hw hk1 iX9_takeFrom_X9 (by decide +kernel) dX9_takeFrom_52 ?_
      refine pt_X9_15 C0 hw hk iX9_takeFrom_X9 (by decide +kernel) dX9_takeFrom_55 (fun σ2 H locs e_σ2 hw => ?_)
      replace h := q_let_at e_σ2 h
      refine lv_iconst (v := (0 : Int32)) hx hb dX9_takeFrom_58 (by decide) ?_
      refine lv_istore_n (lv' := [(2, .int (0 : Int32)), (0, .ref (ad k)), (1, .ref (ad k1))]) hx hb dX9_takeFrom_59 rfl hl (by decide) rfl (fun ls hl => ?_)
      exact tX9_takeFrom_c60 hk hk1 C0 hr hlk q_FU (0 : Int32) σ2 _ _ _ hw (lv_sub hl [1, 2, 0] rfl) h
    · replace h := q_f h c1
      refine lv_aload_n hx hb dX9_takeFrom_32 rfl (lv_at hl 0 rfl) ?_
      refine gt_X9_14 C0 hw hk iX9_takeFrom_X9 (by decide +kernel) dX9_takeFrom_33 ?_
      refine lv_iload_n hx hb dX9_takeFrom_36 rfl (lv_at hl 2 rfl) ?_
      refine lv_aload_n hx hb dX9_takeFrom_37 rfl (lv_at hl 1 rfl) ?_
      refine gt_X9_14 C0 hw hk1 iX9_takeFrom_X9 (by decide +kernel) dX9_takeFrom_38 ?_
      refine lv_iload_n hx hb dX9_takeFrom_41 rfl (lv_at hl 2 rfl) ?_
      obtain ⟨b3, h⟩ := q_if h
      refine q_lald (t0 := 1) C0 hw (mN_11 hk1) (mE_11 hk1) rfl b3 dX9_takeFrom_42 ?_
      obtain ⟨b4, h⟩ := q_if h
      refine q_last (t0 := 1) C0 hw (mN_11 hk) (mE_11 hk) rfl b4 dX9_takeFrom_43 (fun σ5 H locs e_σ5 hw => ?_)
      replace h := q_let_at e_σ5 h
      refine lv_iinc (v := (v2 + (1 : Int32))) (lv' := [(2, .int (v2 + (1 : Int32))), (0, .ref (ad k)), (1, .ref (ad k1))]) hx hb dX9_takeFrom_44 hl (k := 2) rfl rfl (by decide) rfl (fun ls hl => ?_)
      refine lv_goto (tgt := 26) hx hb dX9_takeFrom_47 (by decide) ?_
      exact hrec26 (v2 + (1 : Int32)) σ5 _ _ _ hw (lv_sub hl [1, 2, 0] rfl) h
set_option maxHeartbeats 4000000 in
set_option maxRecDepth 100000 in
theorem kX9_takeFrom {k : Nat} {k1 : Nat} (hk : mB N k) (hk1 : mB N k1) {σ : q_M} {out : q_M} (h : fX9_takeFrom k k1 σ = some out) : q_Mv l (gM D cI cJ cR ad adK adV N) yX9_takeFrom wsX9_takeFrom { frames := 0, cells := 0, slots := 0, locals := 0 } [.ref (ad k), .ref (ad k1)] σ out := by
  refine q_Mv_of (cc := cX9_takeFrom) (maxL := 3) (ret := none) (by decide) rfl (Nat.le_of_ble_eq_true rfl) ?_
  intro p e s m below meth c ls C0 hr hlk hl hw
  obtain ⟨hx, hb, hml, hown, hts⟩ := id C0
  replace hl : lv_has ls 3 [(0, .ref (ad k)), (1, .ref (ad k1))] := hl
  unfold fX9_takeFrom at h
  refine lv_aload_n hx hb dX9_takeFrom_0 rfl (lv_at hl 0 rfl) ?_
  refine lv_aload_n hx hb dX9_takeFrom_1 rfl (lv_at hl 1 rfl) ?_
  refine gt_X9_11 C0 hw hk1 iX9_takeFrom_X9 (by decide +kernel) dX9_takeFrom_2 ?_
  refine pt_X9_11 C0 hw hk iX9_takeFrom_X9 (by decide +kernel) dX9_takeFrom_5 (fun σ1 H locs e_σ1 hw => ?_)
  replace h := q_let_at e_σ1 h
  refine lv_aload_n hx hb dX9_takeFrom_8 rfl (lv_at hl 0 rfl) ?_
  refine lv_aload_n hx hb dX9_takeFrom_9 rfl (lv_at hl 1 rfl) ?_
  refine gt_X9_12 C0 hw hk1 iX9_takeFrom_X9 (by decide +kernel) dX9_takeFrom_10 ?_
  refine pt_X9_12 C0 hw hk iX9_takeFrom_X9 (by decide +kernel) dX9_takeFrom_13 (fun σ2 H locs e_σ2 hw => ?_)
  replace h := q_let_at e_σ2 h
  refine lv_aload_n hx hb dX9_takeFrom_16 rfl (lv_at hl 0 rfl) ?_
  refine lv_aload_n hx hb dX9_takeFrom_17 rfl (lv_at hl 1 rfl) ?_
  refine gt_X9_13 C0 hw hk1 iX9_takeFrom_X9 (by decide +kernel) dX9_takeFrom_18 ?_
  refine pt_X9_13 C0 hw hk iX9_takeFrom_X9 (by decide +kernel) dX9_takeFrom_21 (fun σ3 H locs e_σ3 hw => ?_)
  replace h := q_let_at e_σ3 h
  refine lv_iconst (v := (0 : Int32)) hx hb dX9_takeFrom_24 (by decide) ?_
  refine lv_istore_n (lv' := [(2, .int (0 : Int32)), (0, .ref (ad k)), (1, .ref (ad k1))]) hx hb dX9_takeFrom_25 rfl hl (by decide) rfl (fun ls hl => ?_)
  exact tX9_takeFrom_c26 hk hk1 C0 hr hlk q_FU (0 : Int32) σ3 _ _ _ hw (lv_sub hl [1, 2, 0] rfl) h
-- X9_inPieces inPieces()J
theorem iX9_inPieces_X9 : ∀ w ∈ wsX90, w ∈ wsX9_inPieces := by decide +kernel
set_option maxHeartbeats 4000000 in
set_option maxRecDepth 100000 in
theorem tX9_inPieces_c4 {k : Nat} (hk : mB N k) (C0 : CallFix p m c cX9_inPieces 4 s args wsX9_inPieces RX9) (hr : meth.sig.returnType = (some .long)) (hlk : meth.locks = false) {out : Int64 × q_M}  : ∀ n : Nat, ∀ (v1 : Int64) (v3 : Int32) (σ : q_M) (H : Heap) (locs : List Loc) (ls : Array Slot), q_H (gM D cI cJ cR ad adK adV N) (q_A (gM D cI cJ cR ad adK adV N) s.heap.size) s σ H locs → lv_has ls 4 [(0, .ref (ad k)), (1, .long v1), (3, .int v3)] → fX9_inPieces_c4 k n v1 v3 σ = some out → W p l e { frames := 1, cells := 0, slots := 0, locals := 21 } s m args below meth c H locs 0 0 (MQ below (q_Rl (gM D cI cJ cR ad adK adV N) (q_A (gM D cI cJ cR ad adK adV N) s.heap.size) out) args s 0 0 (q_A (gM D cI cJ cR ad adK adV N) s.heap.size)) (F0 m 4 ls []) := by
  obtain ⟨hx, hb, hml, hown, hts⟩ := id C0
  intro n
  induction n with
  | zero =>
    intro v1 v3 σ H locs ls  hw hl h
    cases (show (none : Option (Int64 × q_M)) = some out from h)
  | succ n hrec4 =>
    intro v1 v3 σ H locs ls  hw hl h
    replace h : fX9_inPieces_c4b k (fX9_inPieces_c4 k n) v1 v3 σ = some out := h
    unfold fX9_inPieces_c4b at h
    refine lv_iload_n hx hb dX9_inPieces_4 rfl (lv_at hl 2 rfl) ?_
    refine lv_aload_n hx hb dX9_inPieces_5 rfl (lv_at hl 0 rfl) ?_
    refine gt_X9_13 C0 hw hk iX9_inPieces_X9 (by decide +kernel) dX9_inPieces_6 ?_
    refine lv_icmp_ge (tgt := 39) hx hb dX9_inPieces_9 (by decide) (fun c1 => ?_) (fun c1 => ?_)
    · replace h := q_t h c1
      refine lv_lload_n hx hb dX9_inPieces_39 rfl (lv_at hl 1 rfl) ?_
      exact q_lret h C0 hr hlk hw dX9_inPieces_40
    · replace h := q_f h c1
      refine lv_lload_n hx hb dX9_inPieces_12 rfl (lv_at hl 1 rfl) ?_
      refine lv_aload_n hx hb dX9_inPieces_13 rfl (lv_at hl 0 rfl) ?_
      refine lv_iload_n hx hb dX9_inPieces_14 rfl (lv_at hl 2 rfl) ?_
      obtain ⟨o2, hco2, h⟩ := q_bind h
      refine q_calli hw (va_runV (As := [.int v3]) (rest := [.long v1]) C0 (kX9_isOff hk hco2 _) (cwV 1 hts gX9_inPieces_X9_isOff rfl rfl rfl eX9_isOff ⟨(Nat.le_of_ble_eq_true rfl), (Nat.le_of_ble_eq_true rfl)⟩) ⟨q_blind, q_recv hw (mN_0 hk) (mE_0 hk) rfl, q_pre hw⟩ rfl rfl hl.1 rfl (lv_room (Nat.le_of_ble_eq_true rfl)) dX9_inPieces_15 ⟨Nat.zero_le _, Nat.zero_le _⟩) (fun H locs hw => ?_)
      refine lv_if_eq (tgt := 25) hx hb dX9_inPieces_18 (by decide) (fun c3 => ?_) (fun c3 => ?_)
      · replace h := q_t h c3
        refine lv_aload_n hx hb dX9_inPieces_25 rfl (lv_at hl 0 rfl) ?_
        refine gt_X9_14 C0 hw hk iX9_inPieces_X9 (by decide +kernel) dX9_inPieces_26 ?_
        refine lv_iload_n hx hb dX9_inPieces_29 rfl (lv_at hl 2 rfl) ?_
        obtain ⟨b4, h⟩ := q_if h
        refine q_lald (t0 := 1) C0 hw (mN_11 hk) (mE_11 hk) rfl b4 dX9_inPieces_30 ?_
        refine lv_lor hx hb dX9_inPieces_31 ?_
        refine lv_topl (fun x5 e_x5 => ?_)
        replace h := q_let_at e_x5 h
        refine lv_lstore_n (lv' := [(1, .long x5), (0, .ref (ad k)), (3, .int v3)]) hx hb dX9_inPieces_32 rfl hl (by decide) rfl (fun ls hl => ?_)
        refine lv_iinc (v := (v3 + (1 : Int32))) (lv' := [(3, .int (v3 + (1 : Int32))), (1, .long x5), (0, .ref (ad k))]) hx hb dX9_inPieces_33 hl (k := 2) rfl rfl (by decide) rfl (fun ls hl => ?_)
        refine lv_goto (tgt := 4) hx hb dX9_inPieces_36 (by decide) ?_
        exact hrec4 x5 (v3 + (1 : Int32)) o2.2 _ _ _ hw (lv_sub hl [2, 1, 0] rfl) h
      · replace h := q_f h c3
        refine lv_lconst (v := (0 : Int64)) hx hb dX9_inPieces_21 (by decide) ?_
        refine lv_goto (tgt := 31) hx hb dX9_inPieces_22 (by decide) ?_
        refine lv_lor hx hb dX9_inPieces_31 ?_
        refine lv_lstore_n (lv' := [(1, .long (v1 ||| (0 : Int64))), (0, .ref (ad k)), (3, .int v3)]) hx hb dX9_inPieces_32 rfl hl (by decide) rfl (fun ls hl => ?_)
        refine lv_iinc (v := (v3 + (1 : Int32))) (lv' := [(3, .int (v3 + (1 : Int32))), (1, .long (v1 ||| (0 : Int64))), (0, .ref (ad k))]) hx hb dX9_inPieces_33 hl (k := 2) rfl rfl (by decide) rfl (fun ls hl => ?_)
        refine lv_goto (tgt := 4) hx hb dX9_inPieces_36 (by decide) ?_
        exact hrec4 (v1 ||| (0 : Int64)) (v3 + (1 : Int32)) o2.2 _ _ _ hw (lv_sub hl [2, 1, 0] rfl) h
set_option maxHeartbeats 4000000 in
set_option maxRecDepth 100000 in
theorem kX9_inPieces {k : Nat} (hk : mB N k) {σ : q_M} {out : Int64 × q_M} (h : fX9_inPieces k σ = some out) : q_Ml l (gM D cI cJ cR ad adK adV N) yX9_inPieces wsX9_inPieces { frames := 1, cells := 0, slots := 0, locals := 21 } [.ref (ad k)] σ out := by
  refine q_Ml_of (cc := cX9_inPieces) (maxL := 4) (ret := (some .long)) (by decide) rfl (Nat.le_of_ble_eq_true rfl) ?_
  intro p e s m below meth c ls C0 hr hlk hl hw
  obtain ⟨hx, hb, hml, hown, hts⟩ := id C0
  replace hl : lv_has ls 4 [(0, .ref (ad k))] := hl
  unfold fX9_inPieces at h
  refine lv_lconst (v := (0 : Int64)) hx hb dX9_inPieces_0 (by decide) ?_
  refine lv_lstore_n (lv' := [(1, .long (0 : Int64)), (0, .ref (ad k))]) hx hb dX9_inPieces_1 rfl hl (by decide) rfl (fun ls hl => ?_)
  refine lv_iconst (v := (0 : Int32)) hx hb dX9_inPieces_2 (by decide) ?_
  refine lv_istore_n (lv' := [(3, .int (0 : Int32)), (1, .long (0 : Int64)), (0, .ref (ad k))]) hx hb dX9_inPieces_3 rfl hl (by decide) rfl (fun ls hl => ?_)
  exact tX9_inPieces_c4 hk C0 hr hlk q_FU (0 : Int64) (0 : Int32) σ _ _ _ hw (lv_sub hl [2, 1, 0] rfl) h
-- X9_freeOf freeOf(IJ)I
set_option maxHeartbeats 4000000 in
set_option maxRecDepth 100000 in
theorem tX9_freeOf_c47 {k : Nat} {p1 : Int32} {p2 : Int64} {rec6 : Int32 → Int32 → q_M → Option (Int32 × q_M)} {rec25 : Int32 → Int32 → Int32 → Int32 → q_M → Option (Int32 × q_M)} (hk : mB N k) (C0 : CallFix p m c cX9_freeOf 8 s args wsX9_freeOf RX9) (hr : meth.sig.returnType = (some .int)) (hlk : meth.locks = false) {out : Int32 × q_M} (hrec6 : ∀ (v4 : Int32) (v5 : Int32) (σ : q_M) (H : Heap) (locs : List Loc) (ls : Array Slot), q_H (gM D cI cJ cR ad adK adV N) (q_A (gM D cI cJ cR ad adK adV N) s.heap.size) s σ H locs → lv_has ls 8 [(0, .ref (ad k)), (1, .int p1), (2, .long p2), (4, .int v4), (5, .int v5)] → rec6 v4 v5 σ = some out → W p l e { frames := 2, cells := 0, slots := 0, locals := 46 } s m args below meth c H locs 0 0 (MQ below (q_Ri (gM D cI cJ cR ad adK adV N) (q_A (gM D cI cJ cR ad adK adV N) s.heap.size) out) args s 0 0 (q_A (gM D cI cJ cR ad adK adV N) s.heap.size)) (F0 m 6 ls [])) (hrec25 : ∀ (v4 : Int32) (v5 : Int32) (v6 : Int32) (v7 : Int32) (σ : q_M) (H : Heap) (locs : List Loc) (ls : Array Slot), q_H (gM D cI cJ cR ad adK adV N) (q_A (gM D cI cJ cR ad adK adV N) s.heap.size) s σ H locs → lv_has ls 8 [(0, .ref (ad k)), (1, .int p1), (2, .long p2), (4, .int v4), (5, .int v5), (6, .int v6), (7, .int v7)] → rec25 v4 v5 v6 v7 σ = some out → W p l e { frames := 2, cells := 0, slots := 0, locals := 46 } s m args below meth c H locs 0 0 (MQ below (q_Ri (gM D cI cJ cR ad adK adV N) (q_A (gM D cI cJ cR ad adK adV N) s.heap.size) out) args s 0 0 (q_A (gM D cI cJ cR ad adK adV N) s.heap.size)) (F0 m 25 ls [])) : ∀ (v4 : Int32) (v5 : Int32) (v7 : Int32) (s0 : Int32) (s1 : Int32) (σ : q_M) (H : Heap) (locs : List Loc) (ls : Array Slot), q_H (gM D cI cJ cR ad adK adV N) (q_A (gM D cI cJ cR ad adK adV N) s.heap.size) s σ H locs → lv_has ls 8 [(0, .ref (ad k)), (1, .int p1), (2, .long p2), (4, .int v4), (5, .int v5), (7, .int v7)] → fX9_freeOf_c47 k p1 p2 rec6 rec25 v4 v5 v7 s0 s1 σ = some out → W p l e { frames := 2, cells := 0, slots := 0, locals := 46 } s m args below meth c H locs 0 0 (MQ below (q_Ri (gM D cI cJ cR ad adK adV N) (q_A (gM D cI cJ cR ad adK adV N) s.heap.size) out) args s 0 0 (q_A (gM D cI cJ cR ad adK adV N) s.heap.size)) (F0 m 47 ls [.int s0, .int s1]) := by
  obtain ⟨hx, hb, hml, hown, hts⟩ := id C0
  intro v4 v5 v7 s0 s1 σ H locs ls  hw hl h
  unfold fX9_freeOf_c47 at h
  refine lv_iand hx hb dX9_freeOf_47 ?_
  refine lv_istore (lv' := [(6, .int (s1 &&& s0)), (0, .ref (ad k)), (1, .int p1), (2, .long p2), (4, .int v4), (5, .int v5), (7, .int v7)]) hx hb dX9_freeOf_48 hl (by decide) rfl (fun ls hl => ?_)
  refine lv_aload_n hx hb dX9_freeOf_50 rfl (lv_at hl 1 rfl) ?_
  refine lv_iload hx hb dX9_freeOf_51 (lv_at hl 6 rfl) ?_
  refine lv_iload hx hb dX9_freeOf_53 (lv_at hl 5 rfl) ?_
  obtain ⟨o1, hco1, h⟩ := q_bind h
  refine q_calli hw (va_runV (As := [.int v7, .int v5]) (rest := []) C0 (kX9_from hk hco1 _) (cwV 2 hts gX9_freeOf_X9_from rfl rfl rfl eX9_from ⟨(Nat.le_of_ble_eq_true rfl), (Nat.le_of_ble_eq_true rfl)⟩) ⟨q_blind, q_recv hw (mN_0 hk) (mE_0 hk) rfl, q_pre hw⟩ rfl rfl hl.1 rfl (lv_room (Nat.le_of_ble_eq_true rfl)) dX9_freeOf_55 ⟨Nat.zero_le _, Nat.zero_le _⟩) (fun H locs hw => ?_)
  refine lv_istore (lv' := [(7, .int o1.1), (6, .int (s1 &&& s0)), (0, .ref (ad k)), (1, .int p1), (2, .long p2), (4, .int v4), (5, .int v5)]) hx hb dX9_freeOf_58 hl (by decide) rfl (fun ls hl => ?_)
  refine lv_goto (tgt := 25) hx hb dX9_freeOf_60 (by decide) ?_
  exact hrec25 v4 v5 (s1 &&& s0) o1.1 o1.2 _ _ _ hw (lv_sub hl [2, 3, 4, 5, 6, 1, 0] rfl) h
set_option maxHeartbeats 4000000 in
set_option maxRecDepth 100000 in
theorem tX9_freeOf_c25 {k : Nat} {p1 : Int32} {p2 : Int64} {rec6 : Int32 → Int32 → q_M → Option (Int32 × q_M)} (hk : mB N k) (C0 : CallFix p m c cX9_freeOf 8 s args wsX9_freeOf RX9) (hr : meth.sig.returnType = (some .int)) (hlk : meth.locks = false) {out : Int32 × q_M} (hrec6 : ∀ (v4 : Int32) (v5 : Int32) (σ : q_M) (H : Heap) (locs : List Loc) (ls : Array Slot), q_H (gM D cI cJ cR ad adK adV N) (q_A (gM D cI cJ cR ad adK adV N) s.heap.size) s σ H locs → lv_has ls 8 [(0, .ref (ad k)), (1, .int p1), (2, .long p2), (4, .int v4), (5, .int v5)] → rec6 v4 v5 σ = some out → W p l e { frames := 2, cells := 0, slots := 0, locals := 46 } s m args below meth c H locs 0 0 (MQ below (q_Ri (gM D cI cJ cR ad adK adV N) (q_A (gM D cI cJ cR ad adK adV N) s.heap.size) out) args s 0 0 (q_A (gM D cI cJ cR ad adK adV N) s.heap.size)) (F0 m 6 ls [])) : ∀ n : Nat, ∀ (v4 : Int32) (v5 : Int32) (v6 : Int32) (v7 : Int32) (σ : q_M) (H : Heap) (locs : List Loc) (ls : Array Slot), q_H (gM D cI cJ cR ad adK adV N) (q_A (gM D cI cJ cR ad adK adV N) s.heap.size) s σ H locs → lv_has ls 8 [(0, .ref (ad k)), (1, .int p1), (2, .long p2), (4, .int v4), (5, .int v5), (6, .int v6), (7, .int v7)] → fX9_freeOf_c25 k p1 p2 rec6 n v4 v5 v6 v7 σ = some out → W p l e { frames := 2, cells := 0, slots := 0, locals := 46 } s m args below meth c H locs 0 0 (MQ below (q_Ri (gM D cI cJ cR ad adK adV N) (q_A (gM D cI cJ cR ad adK adV N) s.heap.size) out) args s 0 0 (q_A (gM D cI cJ cR ad adK adV N) s.heap.size)) (F0 m 25 ls []) := by
  obtain ⟨hx, hb, hml, hown, hts⟩ := id C0
  intro n
  induction n with
  | zero =>
    intro v4 v5 v6 v7 σ H locs ls  hw hl h
    cases (show (none : Option (Int32 × q_M)) = some out from h)
  | succ n hrec25 =>
    intro v4 v5 v6 v7 σ H locs ls  hw hl h
    replace h : fX9_freeOf_c25b k p1 p2 rec6 (fX9_freeOf_c25 k p1 p2 rec6 n) v4 v5 v6 v7 σ = some out := h
    unfold fX9_freeOf_c25b at h
    refine lv_iload hx hb dX9_freeOf_25 (lv_at hl 6 rfl) ?_
    refine lv_iconst (v := (-1 : Int32)) hx hb dX9_freeOf_27 (by decide) ?_
    refine lv_icmp_eq (tgt := 63) hx hb dX9_freeOf_28 (by decide) (fun c1 => ?_) (fun c1 => ?_)
    · replace h := q_t h c1
      refine lv_iload hx hb dX9_freeOf_63 (lv_at hl 3 rfl) ?_
      refine lv_iload hx hb dX9_freeOf_65 (lv_at hl 5 rfl) ?_
      refine lv_if_eq (tgt := 77) hx hb dX9_freeOf_67 (by decide) (fun c2 => ?_) (fun c2 => ?_)
      · replace h := q_t h c2
        refine lv_iconst (v := (0 : Int32)) hx hb dX9_freeOf_77 (by decide) ?_
        refine lv_ior hx hb dX9_freeOf_78 ?_
        refine lv_istore (lv' := [(4, .int (v4 ||| (0 : Int32))), (0, .ref (ad k)), (1, .int p1), (2, .long p2), (5, .int v5), (6, .int v6), (7, .int v7)]) hx hb dX9_freeOf_79 hl (by decide) rfl (fun ls hl => ?_)
        refine lv_iinc (v := (v5 + (1 : Int32))) (lv' := [(5, .int (v5 + (1 : Int32))), (4, .int (v4 ||| (0 : Int32))), (0, .ref (ad k)), (1, .int p1), (2, .long p2), (6, .int v6), (7, .int v7)]) hx hb dX9_freeOf_81 hl (k := 4) rfl rfl (by decide) rfl (fun ls hl => ?_)
        refine lv_goto (tgt := 6) hx hb dX9_freeOf_84 (by decide) ?_
        exact hrec6 (v4 ||| (0 : Int32)) (v5 + (1 : Int32)) σ _ _ _ hw (lv_sub hl [2, 3, 4, 1, 0] rfl) h
      · replace h := q_f h c2
        refine lv_iconst (v := (1 : Int32)) hx hb dX9_freeOf_70 (by decide) ?_
        refine lv_iload hx hb dX9_freeOf_71 (lv_at hl 4 rfl) ?_
        refine q_ishl (v := (q_sl (1 : Int32) v5)) C0 dX9_freeOf_73 rfl ?_
        refine lv_goto (tgt := 78) hx hb dX9_freeOf_74 (by decide) ?_
        refine lv_ior hx hb dX9_freeOf_78 ?_
        refine lv_topi (fun x3 e_x3 => ?_)
        replace h := q_let_at e_x3 h
        refine lv_istore (lv' := [(4, .int x3), (0, .ref (ad k)), (1, .int p1), (2, .long p2), (5, .int v5), (6, .int v6), (7, .int v7)]) hx hb dX9_freeOf_79 hl (by decide) rfl (fun ls hl => ?_)
        refine lv_iinc (v := (v5 + (1 : Int32))) (lv' := [(5, .int (v5 + (1 : Int32))), (4, .int x3), (0, .ref (ad k)), (1, .int p1), (2, .long p2), (6, .int v6), (7, .int v7)]) hx hb dX9_freeOf_81 hl (k := 4) rfl rfl (by decide) rfl (fun ls hl => ?_)
        refine lv_goto (tgt := 6) hx hb dX9_freeOf_84 (by decide) ?_
        exact hrec6 x3 (v5 + (1 : Int32)) σ _ _ _ hw (lv_sub hl [2, 3, 4, 1, 0] rfl) h
    · replace h := q_f h c1
      refine lv_iload hx hb dX9_freeOf_31 (lv_at hl 5 rfl) ?_
      refine lv_lload_n hx hb dX9_freeOf_33 rfl (lv_at hl 2 rfl) ?_
      refine lv_iload hx hb dX9_freeOf_34 (lv_at hl 6 rfl) ?_
      obtain ⟨o4, hco4, h⟩ := q_bind h
      refine q_calli hw (va_runS (As := [.long p2, .int v7]) (rest := [.int v6]) C0 (kX9_has hco4 _) (va_cwS 2 hts gX9_freeOf_X9_has rfl rfl rfl eX9_has ⟨(Nat.le_of_ble_eq_true rfl), (Nat.le_of_ble_eq_true rfl)⟩) ⟨q_blind, q_pre hw⟩ rfl rfl hl.1 rfl (lv_room (Nat.le_of_ble_eq_true rfl)) dX9_freeOf_36 ⟨Nat.zero_le _, Nat.zero_le _⟩) (fun H locs hw => ?_)
      refine lv_if_ne (tgt := 46) hx hb dX9_freeOf_39 (by decide) (fun c5 => ?_) (fun c5 => ?_)
      · replace h := q_f h c5
        refine lv_iconst (v := (0 : Int32)) hx hb dX9_freeOf_46 (by decide) ?_
        exact tX9_freeOf_c47 hk C0 hr hlk hrec6 hrec25 v4 v5 v7 (0 : Int32) v6 o4.2 _ _ _ hw (lv_sub hl [0, 1, 2, 3, 4, 6] rfl) h
      · replace h := q_t h c5
        refine lv_iconst (v := (1 : Int32)) hx hb dX9_freeOf_42 (by decide) ?_
        refine lv_goto (tgt := 47) hx hb dX9_freeOf_43 (by decide) ?_
        exact tX9_freeOf_c47 hk C0 hr hlk hrec6 hrec25 v4 v5 v7 (1 : Int32) v6 o4.2 _ _ _ hw (lv_sub hl [0, 1, 2, 3, 4, 6] rfl) h
set_option maxHeartbeats 4000000 in
set_option maxRecDepth 100000 in
theorem tX9_freeOf_c6 {k : Nat} {p1 : Int32} {p2 : Int64} (hk : mB N k) (C0 : CallFix p m c cX9_freeOf 8 s args wsX9_freeOf RX9) (hr : meth.sig.returnType = (some .int)) (hlk : meth.locks = false) {out : Int32 × q_M}  : ∀ n : Nat, ∀ (v4 : Int32) (v5 : Int32) (σ : q_M) (H : Heap) (locs : List Loc) (ls : Array Slot), q_H (gM D cI cJ cR ad adK adV N) (q_A (gM D cI cJ cR ad adK adV N) s.heap.size) s σ H locs → lv_has ls 8 [(0, .ref (ad k)), (1, .int p1), (2, .long p2), (4, .int v4), (5, .int v5)] → fX9_freeOf_c6 k p1 p2 n v4 v5 σ = some out → W p l e { frames := 2, cells := 0, slots := 0, locals := 46 } s m args below meth c H locs 0 0 (MQ below (q_Ri (gM D cI cJ cR ad adK adV N) (q_A (gM D cI cJ cR ad adK adV N) s.heap.size) out) args s 0 0 (q_A (gM D cI cJ cR ad adK adV N) s.heap.size)) (F0 m 6 ls []) := by
  obtain ⟨hx, hb, hml, hown, hts⟩ := id C0
  intro n
  induction n with
  | zero =>
    intro v4 v5 σ H locs ls  hw hl h
    cases (show (none : Option (Int32 × q_M)) = some out from h)
  | succ n hrec6 =>
    intro v4 v5 σ H locs ls  hw hl h
    replace h : fX9_freeOf_c6b k p1 p2 (fX9_freeOf_c6 k p1 p2 n) v4 v5 σ = some out := h
    unfold fX9_freeOf_c6b at h
    refine lv_iload hx hb dX9_freeOf_6 (lv_at hl 4 rfl) ?_
    refine lv_bipush (v := (6 : Int32)) hx hb dX9_freeOf_8 (by decide) ?_
    refine lv_icmp_ge (tgt := 87) hx hb dX9_freeOf_10 (by decide) (fun c1 => ?_) (fun c1 => ?_)
    · replace h := q_t h c1
      refine lv_iload hx hb dX9_freeOf_87 (lv_at hl 3 rfl) ?_
      exact q_iret h C0 hr hlk hw dX9_freeOf_89
    · replace h := q_f h c1
      refine lv_iconst (v := (1 : Int32)) hx hb dX9_freeOf_13 (by decide) ?_
      refine lv_istore (lv' := [(6, .int (1 : Int32)), (0, .ref (ad k)), (1, .int p1), (2, .long p2), (4, .int v4), (5, .int v5)]) hx hb dX9_freeOf_14 hl (by decide) rfl (fun ls hl => ?_)
      refine lv_aload_n hx hb dX9_freeOf_16 rfl (lv_at hl 1 rfl) ?_
      refine lv_iload_n hx hb dX9_freeOf_17 rfl (lv_at hl 2 rfl) ?_
      refine lv_iload hx hb dX9_freeOf_18 (lv_at hl 5 rfl) ?_
      obtain ⟨o2, hco2, h⟩ := q_bind h
      refine q_calli hw (va_runV (As := [.int p1, .int v5]) (rest := []) C0 (kX9_from hk hco2 _) (cwV 2 hts gX9_freeOf_X9_from rfl rfl rfl eX9_from ⟨(Nat.le_of_ble_eq_true rfl), (Nat.le_of_ble_eq_true rfl)⟩) ⟨q_blind, q_recv hw (mN_0 hk) (mE_0 hk) rfl, q_pre hw⟩ rfl rfl hl.1 rfl (lv_room (Nat.le_of_ble_eq_true rfl)) dX9_freeOf_20 ⟨Nat.zero_le _, Nat.zero_le _⟩) (fun H locs hw => ?_)
      refine lv_istore (lv' := [(7, .int o2.1), (6, .int (1 : Int32)), (0, .ref (ad k)), (1, .int p1), (2, .long p2), (4, .int v4), (5, .int v5)]) hx hb dX9_freeOf_23 hl (by decide) rfl (fun ls hl => ?_)
      exact tX9_freeOf_c25 hk C0 hr hlk hrec6 q_FU v4 v5 (1 : Int32) o2.1 o2.2 _ _ _ hw (lv_sub hl [2, 3, 4, 5, 6, 1, 0] rfl) h
set_option maxHeartbeats 4000000 in
set_option maxRecDepth 100000 in
theorem kX9_freeOf {k : Nat} {p1 : Int32} {p2 : Int64} (hk : mB N k) {σ : q_M} {out : Int32 × q_M} (h : fX9_freeOf k p1 p2 σ = some out) : q_Mi l (gM D cI cJ cR ad adK adV N) yX9_freeOf wsX9_freeOf { frames := 2, cells := 0, slots := 0, locals := 46 } [.ref (ad k), .int p1, .long p2] σ out := by
  refine q_Mi_of (cc := cX9_freeOf) (maxL := 8) (ret := (some .int)) (by decide) rfl (Nat.le_of_ble_eq_true rfl) ?_
  intro p e s m below meth c ls C0 hr hlk hl hw
  obtain ⟨hx, hb, hml, hown, hts⟩ := id C0
  replace hl : lv_has ls 8 [(0, .ref (ad k)), (1, .int p1), (2, .long p2)] := hl
  unfold fX9_freeOf at h
  refine lv_iconst (v := (0 : Int32)) hx hb dX9_freeOf_0 (by decide) ?_
  refine lv_istore (lv' := [(4, .int (0 : Int32)), (0, .ref (ad k)), (1, .int p1), (2, .long p2)]) hx hb dX9_freeOf_1 hl (by decide) rfl (fun ls hl => ?_)
  refine lv_iconst (v := (0 : Int32)) hx hb dX9_freeOf_3 (by decide) ?_
  refine lv_istore (lv' := [(5, .int (0 : Int32)), (4, .int (0 : Int32)), (0, .ref (ad k)), (1, .int p1), (2, .long p2)]) hx hb dX9_freeOf_4 hl (by decide) rfl (fun ls hl => ?_)
  exact tX9_freeOf_c6 hk C0 hr hlk q_FU (0 : Int32) (0 : Int32) σ _ _ _ hw (lv_sub hl [2, 3, 4, 1, 0] rfl) h
-- X9_findFree findFree(J)V
theorem iX9_findFree_X9 : ∀ w ∈ wsX90, w ∈ wsX9_findFree := by decide +kernel
theorem eX9_freeOf : yX9_freeOf.cls = RX9 ∧ yX9_freeOf.cls ≠ "java/lang/invoke/MethodHandle" ∧ yX9_freeOf.cls ≠ "java/lang/invoke/VarHandle" ∧ (parseMethodDescriptor yX9_freeOf.desc).map (fun d => d.parameters.length) = some 2 := by decide +kernel
set_option maxHeartbeats 4000000 in
set_option maxRecDepth 100000 in
theorem tX9_findFree_c2 {k : Nat} {p1 : Int64} (hk : mB N k) (C0 : CallFix p m c cX9_findFree 4 s args wsX9_findFree RX9) (hr : meth.sig.returnType = none) (hlk : meth.locks = false) {out : q_M}  : ∀ n : Nat, ∀ (v3 : Int32) (σ : q_M) (H : Heap) (locs : List Loc) (ls : Array Slot), q_H (gM D cI cJ cR ad adK adV N) (q_A (gM D cI cJ cR ad adK adV N) s.heap.size) s σ H locs → lv_has ls 4 [(0, .ref (ad k)), (1, .long p1), (3, .int v3)] → fX9_findFree_c2 k p1 n v3 σ = some out → W p l e { frames := 3, cells := 0, slots := 0, locals := 73 } s m args below meth c H locs 0 0 (MQ below (q_Rv (gM D cI cJ cR ad adK adV N) (q_A (gM D cI cJ cR ad adK adV N) s.heap.size) out) args s 0 0 (q_A (gM D cI cJ cR ad adK adV N) s.heap.size)) (F0 m 2 ls []) := by
  obtain ⟨hx, hb, hml, hown, hts⟩ := id C0
  intro n
  induction n with
  | zero =>
    intro v3 σ H locs ls  hw hl h
    cases (show (none : Option (q_M)) = some out from h)
  | succ n hrec2 =>
    intro v3 σ H locs ls  hw hl h
    replace h : fX9_findFree_c2b k p1 (fX9_findFree_c2 k p1 n) v3 σ = some out := h
    unfold fX9_findFree_c2b at h
    refine lv_iload_n hx hb dX9_findFree_2 rfl (lv_at hl 2 rfl) ?_
    refine lv_aload_n hx hb dX9_findFree_3 rfl (lv_at hl 0 rfl) ?_
    obtain ⟨o1, hco1, h⟩ := q_bind h
    refine q_calli hw (va_runV (As := []) (rest := [.int v3]) C0 (kX9_many hk hco1 _) (cwV 0 hts gX9_findFree_X9_many rfl rfl rfl eX9_many ⟨(Nat.le_of_ble_eq_true rfl), (Nat.le_of_ble_eq_true rfl)⟩) ⟨q_blind, q_recv hw (mN_0 hk) (mE_0 hk) rfl, q_pre hw⟩ rfl rfl hl.1 rfl (lv_room (Nat.le_of_ble_eq_true rfl)) dX9_findFree_4 ⟨Nat.zero_le _, Nat.zero_le _⟩) (fun H locs hw => ?_)
    refine lv_icmp_ge (tgt := 40) hx hb dX9_findFree_7 (by decide) (fun c2 => ?_) (fun c2 => ?_)
    · replace h := q_t h c2
      exact q_vret h C0 hr hlk hw dX9_findFree_40
    · replace h := q_f h c2
      refine lv_aload_n hx hb dX9_findFree_10 rfl (lv_at hl 0 rfl) ?_
      refine gt_X9_32 C0 hw hk iX9_findFree_X9 (by decide +kernel) dX9_findFree_11 ?_
      refine lv_iload_n hx hb dX9_findFree_14 rfl (lv_at hl 2 rfl) ?_
      refine lv_lload_n hx hb dX9_findFree_15 rfl (lv_at hl 1 rfl) ?_
      refine lv_iload_n hx hb dX9_findFree_16 rfl (lv_at hl 2 rfl) ?_
      obtain ⟨o3, hco3, h⟩ := q_bind h
      refine q_calli hw (va_runS (As := [.long p1, .int v3]) (rest := [.int v3, .ref (ad (k + 16))]) C0 (kX9_has hco3 _) (va_cwS 2 hts gX9_findFree_X9_has rfl rfl rfl eX9_has ⟨(Nat.le_of_ble_eq_true rfl), (Nat.le_of_ble_eq_true rfl)⟩) ⟨q_blind, q_pre hw⟩ rfl rfl hl.1 rfl (lv_room (Nat.le_of_ble_eq_true rfl)) dX9_findFree_17 ⟨Nat.zero_le _, Nat.zero_le _⟩) (fun H locs hw => ?_)
      refine lv_if_eq (tgt := 27) hx hb dX9_findFree_20 (by decide) (fun c4 => ?_) (fun c4 => ?_)
      · replace h := q_t h c4
        refine lv_aload_n hx hb dX9_findFree_27 rfl (lv_at hl 0 rfl) ?_
        refine lv_iload_n hx hb dX9_findFree_28 rfl (lv_at hl 2 rfl) ?_
        refine lv_lload_n hx hb dX9_findFree_29 rfl (lv_at hl 1 rfl) ?_
        obtain ⟨o5, hco5, h⟩ := q_bind h
        refine q_calli hw (va_runV (As := [.int v3, .long p1]) (rest := [.int v3, .ref (ad (k + 16))]) C0 (kX9_freeOf hk hco5 _) (cwV 2 hts gX9_findFree_X9_freeOf rfl rfl rfl eX9_freeOf ⟨(Nat.le_of_ble_eq_true rfl), (Nat.le_of_ble_eq_true rfl)⟩) ⟨q_blind, q_recv hw (mN_0 hk) (mE_0 hk) rfl, q_pre hw⟩ rfl rfl hl.1 rfl (lv_room (Nat.le_of_ble_eq_true rfl)) dX9_findFree_30 ⟨Nat.zero_le _, Nat.zero_le _⟩) (fun H locs hw => ?_)
        obtain ⟨b6, h⟩ := q_if h
        refine q_iast (t0 := 0) C0 hw (mN_16 hk) (mE_16 hk) rfl b6 dX9_findFree_33 (fun σ7 H locs e_σ7 hw => ?_)
        replace h := q_let_at e_σ7 h
        refine lv_iinc (v := (v3 + (1 : Int32))) (lv' := [(3, .int (v3 + (1 : Int32))), (0, .ref (ad k)), (1, .long p1)]) hx hb dX9_findFree_34 hl (k := 2) rfl rfl (by decide) rfl (fun ls hl => ?_)
        refine lv_goto (tgt := 2) hx hb dX9_findFree_37 (by decide) ?_
        exact hrec2 (v3 + (1 : Int32)) σ7 _ _ _ hw (lv_sub hl [1, 2, 0] rfl) h
      · replace h := q_f h c4
        refine lv_iconst (v := (-1 : Int32)) hx hb dX9_findFree_23 (by decide) ?_
        refine lv_goto (tgt := 33) hx hb dX9_findFree_24 (by decide) ?_
        obtain ⟨b8, h⟩ := q_if h
        refine q_iast (t0 := 0) C0 hw (mN_16 hk) (mE_16 hk) rfl b8 dX9_findFree_33 (fun σ9 H locs e_σ9 hw => ?_)
        replace h := q_let_at e_σ9 h
        refine lv_iinc (v := (v3 + (1 : Int32))) (lv' := [(3, .int (v3 + (1 : Int32))), (0, .ref (ad k)), (1, .long p1)]) hx hb dX9_findFree_34 hl (k := 2) rfl rfl (by decide) rfl (fun ls hl => ?_)
        refine lv_goto (tgt := 2) hx hb dX9_findFree_37 (by decide) ?_
        exact hrec2 (v3 + (1 : Int32)) σ9 _ _ _ hw (lv_sub hl [1, 2, 0] rfl) h
set_option maxHeartbeats 4000000 in
set_option maxRecDepth 100000 in
theorem kX9_findFree {k : Nat} {p1 : Int64} (hk : mB N k) {σ : q_M} {out : q_M} (h : fX9_findFree k p1 σ = some out) : q_Mv l (gM D cI cJ cR ad adK adV N) yX9_findFree wsX9_findFree { frames := 3, cells := 0, slots := 0, locals := 73 } [.ref (ad k), .long p1] σ out := by
  refine q_Mv_of (cc := cX9_findFree) (maxL := 4) (ret := none) (by decide) rfl (Nat.le_of_ble_eq_true rfl) ?_
  intro p e s m below meth c ls C0 hr hlk hl hw
  obtain ⟨hx, hb, hml, hown, hts⟩ := id C0
  replace hl : lv_has ls 4 [(0, .ref (ad k)), (1, .long p1)] := hl
  unfold fX9_findFree at h
  refine lv_iconst (v := (0 : Int32)) hx hb dX9_findFree_0 (by decide) ?_
  refine lv_istore_n (lv' := [(3, .int (0 : Int32)), (0, .ref (ad k)), (1, .long p1)]) hx hb dX9_findFree_1 rfl hl (by decide) rfl (fun ls hl => ?_)
  exact tX9_findFree_c2 hk C0 hr hlk q_FU (0 : Int32) σ _ _ _ hw (lv_sub hl [1, 2, 0] rfl) h
-- X9_never never()J
theorem iX9_never_X9 : ∀ w ∈ wsX90, w ∈ wsX9_never := by decide +kernel
theorem eX9_findFree : yX9_findFree.cls = RX9 ∧ yX9_findFree.cls ≠ "java/lang/invoke/MethodHandle" ∧ yX9_findFree.cls ≠ "java/lang/invoke/VarHandle" ∧ (parseMethodDescriptor yX9_findFree.desc).map (fun d => d.parameters.length) = some 1 := by decide +kernel
set_option maxHeartbeats 4000000 in
set_option maxRecDepth 100000 in
theorem tX9_never_c12 {k : Nat} (hk : mB N k) (C0 : CallFix p m c cX9_never 4 s args wsX9_never RX9) (hr : meth.sig.returnType = (some .long)) (hlk : meth.locks = false) {out : Int64 × q_M}  : ∀ n : Nat, ∀ (v1 : Int64) (v3 : Int32) (σ : q_M) (H : Heap) (locs : List Loc) (ls : Array Slot), q_H (gM D cI cJ cR ad adK adV N) (q_A (gM D cI cJ cR ad adK adV N) s.heap.size) s σ H locs → lv_has ls 4 [(0, .ref (ad k)), (1, .long v1), (3, .int v3)] → fX9_never_c12 k n v1 v3 σ = some out → W p l e { frames := 4, cells := 0, slots := 0, locals := 96 } s m args below meth c H locs 0 0 (MQ below (q_Rl (gM D cI cJ cR ad adK adV N) (q_A (gM D cI cJ cR ad adK adV N) s.heap.size) out) args s 0 0 (q_A (gM D cI cJ cR ad adK adV N) s.heap.size)) (F0 m 12 ls []) := by
  obtain ⟨hx, hb, hml, hown, hts⟩ := id C0
  intro n
  induction n with
  | zero =>
    intro v1 v3 σ H locs ls  hw hl h
    cases (show (none : Option (Int64 × q_M)) = some out from h)
  | succ n hrec12 =>
    intro v1 v3 σ H locs ls  hw hl h
    replace h : fX9_never_c12b k (fX9_never_c12 k n) v1 v3 σ = some out := h
    unfold fX9_never_c12b at h
    refine lv_iload_n hx hb dX9_never_12 rfl (lv_at hl 2 rfl) ?_
    refine lv_aload_n hx hb dX9_never_13 rfl (lv_at hl 0 rfl) ?_
    obtain ⟨o1, hco1, h⟩ := q_bind h
    refine q_calli hw (va_runV (As := []) (rest := [.int v3]) C0 (kX9_many hk hco1 _) (cwV 0 hts gX9_never_X9_many rfl rfl rfl eX9_many ⟨(Nat.le_of_ble_eq_true rfl), (Nat.le_of_ble_eq_true rfl)⟩) ⟨q_blind, q_recv hw (mN_0 hk) (mE_0 hk) rfl, q_pre hw⟩ rfl rfl hl.1 rfl (lv_room (Nat.le_of_ble_eq_true rfl)) dX9_never_14 ⟨Nat.zero_le _, Nat.zero_le _⟩) (fun H locs hw => ?_)
    refine lv_icmp_ge (tgt := 45) hx hb dX9_never_17 (by decide) (fun c2 => ?_) (fun c2 => ?_)
    · replace h := q_t h c2
      refine lv_lload_n hx hb dX9_never_45 rfl (lv_at hl 1 rfl) ?_
      exact q_lret h C0 hr hlk hw dX9_never_46
    · replace h := q_f h c2
      refine lv_lload_n hx hb dX9_never_20 rfl (lv_at hl 1 rfl) ?_
      refine lv_aload_n hx hb dX9_never_21 rfl (lv_at hl 0 rfl) ?_
      refine gt_X9_32 C0 hw hk iX9_never_X9 (by decide +kernel) dX9_never_22 ?_
      refine lv_iload_n hx hb dX9_never_25 rfl (lv_at hl 2 rfl) ?_
      obtain ⟨b3, h⟩ := q_if h
      refine q_iald (t0 := 0) C0 hw (mN_16 hk) (mE_16 hk) rfl b3 dX9_never_26 ?_
      refine lv_if_ne (tgt := 36) hx hb dX9_never_27 (by decide) (fun c4 => ?_) (fun c4 => ?_)
      · replace h := q_f h c4
        refine lv_lconst (v := (0 : Int64)) hx hb dX9_never_36 (by decide) ?_
        refine lv_lor hx hb dX9_never_37 ?_
        refine lv_lstore_n (lv' := [(1, .long (v1 ||| (0 : Int64))), (0, .ref (ad k)), (3, .int v3)]) hx hb dX9_never_38 rfl hl (by decide) rfl (fun ls hl => ?_)
        refine lv_iinc (v := (v3 + (1 : Int32))) (lv' := [(3, .int (v3 + (1 : Int32))), (1, .long (v1 ||| (0 : Int64))), (0, .ref (ad k))]) hx hb dX9_never_39 hl (k := 2) rfl rfl (by decide) rfl (fun ls hl => ?_)
        refine lv_goto (tgt := 12) hx hb dX9_never_42 (by decide) ?_
        exact hrec12 (v1 ||| (0 : Int64)) (v3 + (1 : Int32)) o1.2 _ _ _ hw (lv_sub hl [2, 1, 0] rfl) h
      · replace h := q_t h c4
        refine lv_lconst (v := (1 : Int64)) hx hb dX9_never_30 (by decide) ?_
        refine lv_iload_n hx hb dX9_never_31 rfl (lv_at hl 2 rfl) ?_
        refine lv_lshl (v := (q_shl (1 : Int64) v3)) hx hb dX9_never_32 rfl ?_
        refine lv_goto (tgt := 37) hx hb dX9_never_33 (by decide) ?_
        refine lv_lor hx hb dX9_never_37 ?_
        refine lv_topl (fun x5 e_x5 => ?_)
        replace h := q_let_at e_x5 h
        refine lv_lstore_n (lv' := [(1, .long x5), (0, .ref (ad k)), (3, .int v3)]) hx hb dX9_never_38 rfl hl (by decide) rfl (fun ls hl => ?_)
        refine lv_iinc (v := (v3 + (1 : Int32))) (lv' := [(3, .int (v3 + (1 : Int32))), (1, .long x5), (0, .ref (ad k))]) hx hb dX9_never_39 hl (k := 2) rfl rfl (by decide) rfl (fun ls hl => ?_)
        refine lv_goto (tgt := 12) hx hb dX9_never_42 (by decide) ?_
        exact hrec12 x5 (v3 + (1 : Int32)) o1.2 _ _ _ hw (lv_sub hl [2, 1, 0] rfl) h
set_option maxHeartbeats 4000000 in
set_option maxRecDepth 100000 in
theorem kX9_never {k : Nat} (hk : mB N k) {σ : q_M} {out : Int64 × q_M} (h : fX9_never k σ = some out) : q_Ml l (gM D cI cJ cR ad adK adV N) yX9_never wsX9_never { frames := 4, cells := 0, slots := 0, locals := 96 } [.ref (ad k)] σ out := by
  refine q_Ml_of (cc := cX9_never) (maxL := 4) (ret := (some .long)) (by decide) rfl (Nat.le_of_ble_eq_true rfl) ?_
  intro p e s m below meth c ls C0 hr hlk hl hw
  obtain ⟨hx, hb, hml, hown, hts⟩ := id C0
  replace hl : lv_has ls 4 [(0, .ref (ad k))] := hl
  unfold fX9_never at h
  refine lv_aload_n hx hb dX9_never_0 rfl (lv_at hl 0 rfl) ?_
  refine lv_aload_n hx hb dX9_never_1 rfl (lv_at hl 0 rfl) ?_
  refine gt_X9_12 C0 hw hk iX9_never_X9 (by decide +kernel) dX9_never_2 ?_
  obtain ⟨o1, hco1, h⟩ := q_bind h
  refine q_callv hw (va_runV (As := [.long (σ.2 k 12)]) (rest := []) C0 (kX9_findFree hk hco1 _) (cwV 1 hts gX9_never_X9_findFree rfl rfl rfl eX9_findFree ⟨(Nat.le_of_ble_eq_true rfl), (Nat.le_of_ble_eq_true rfl)⟩) ⟨q_blind, q_recv hw (mN_0 hk) (mE_0 hk) rfl, q_pre hw⟩ rfl rfl hl.1 rfl (lv_room (Nat.le_of_ble_eq_true rfl)) dX9_never_5 ⟨Nat.zero_le _, Nat.zero_le _⟩) (fun H locs hw => ?_)
  refine lv_lconst (v := (0 : Int64)) hx hb dX9_never_8 (by decide) ?_
  refine lv_lstore_n (lv' := [(1, .long (0 : Int64)), (0, .ref (ad k))]) hx hb dX9_never_9 rfl hl (by decide) rfl (fun ls hl => ?_)
  refine lv_iconst (v := (0 : Int32)) hx hb dX9_never_10 (by decide) ?_
  refine lv_istore_n (lv' := [(3, .int (0 : Int32)), (1, .long (0 : Int64)), (0, .ref (ad k))]) hx hb dX9_never_11 rfl hl (by decide) rfl (fun ls hl => ?_)
  exact tX9_never_c12 hk C0 hr hlk q_FU (0 : Int64) (0 : Int32) o1 _ _ _ hw (lv_sub hl [2, 1, 0] rfl) h
-- X9_cubes cubes(I)J
theorem iX9_cubes_X9 : ∀ w ∈ wsX90, w ∈ wsX9_cubes := by decide +kernel
theorem eX9_inPieces : yX9_inPieces.cls = RX9 ∧ yX9_inPieces.cls ≠ "java/lang/invoke/MethodHandle" ∧ yX9_inPieces.cls ≠ "java/lang/invoke/VarHandle" ∧ (parseMethodDescriptor yX9_inPieces.desc).map (fun d => d.parameters.length) = some 0 := by decide +kernel
theorem eX9_never : yX9_never.cls = RX9 ∧ yX9_never.cls ≠ "java/lang/invoke/MethodHandle" ∧ yX9_never.cls ≠ "java/lang/invoke/VarHandle" ∧ (parseMethodDescriptor yX9_never.desc).map (fun d => d.parameters.length) = some 0 := by decide +kernel
set_option maxHeartbeats 4000000 in
set_option maxRecDepth 100000 in
theorem kX9_cubes {k : Nat} {p1 : Int32} (hk : mB N k) {σ : q_M} {out : Int64 × q_M} (h : fX9_cubes k p1 σ = some out) : q_Ml l (gM D cI cJ cR ad adK adV N) yX9_cubes wsX9_cubes { frames := 5, cells := 0, slots := 0, locals := 119 } [.ref (ad k), .int p1] σ out := by
  refine q_Ml_of (cc := cX9_cubes) (maxL := 2) (ret := (some .long)) (by decide) rfl (Nat.le_of_ble_eq_true rfl) ?_
  intro p e s m below meth c ls C0 hr hlk hl hw
  obtain ⟨hx, hb, hml, hown, hts⟩ := id C0
  replace hl : lv_has ls 2 [(0, .ref (ad k)), (1, .int p1)] := hl
  unfold fX9_cubes at h
  refine lv_iload_n hx hb dX9_cubes_0 rfl (lv_at hl 1 rfl) ?_
  by_cases c1 : p1 = (0 : Int32)
  · replace h := q_t h c1
    refine q_tabIn (off := 31) (tgt := 32) C0 c1 dX9_cubes_1 (by decide) (by decide) rfl (by decide) ?_
    refine lv_aload_n hx hb dX9_cubes_32 rfl (lv_at hl 0 rfl) ?_
    refine gt_X9_12 C0 hw hk iX9_cubes_X9 (by decide +kernel) dX9_cubes_33 ?_
    exact q_lret h C0 hr hlk hw dX9_cubes_36
  · replace h := q_f h c1
    by_cases c2 : p1 = (1 : Int32)
    · replace h := q_t h c2
      refine q_tabIn (off := 36) (tgt := 37) C0 c2 dX9_cubes_1 (by decide) (by decide) rfl (by decide) ?_
      refine lv_aload_n hx hb dX9_cubes_37 rfl (lv_at hl 0 rfl) ?_
      obtain ⟨o3, hco3, h⟩ := q_bind h
      refine q_calll hw (va_runV (As := []) (rest := []) C0 (kX9_empty hk hco3 _) (cwV 0 hts gX9_cubes_X9_empty rfl rfl rfl eX9_empty ⟨(Nat.le_of_ble_eq_true rfl), (Nat.le_of_ble_eq_true rfl)⟩) ⟨q_blind, q_recv hw (mN_0 hk) (mE_0 hk) rfl, q_pre hw⟩ rfl rfl hl.1 rfl (lv_room (Nat.le_of_ble_eq_true rfl)) dX9_cubes_38 ⟨Nat.zero_le _, Nat.zero_le _⟩) (fun H locs hw => ?_)
      exact q_lret h C0 hr hlk hw dX9_cubes_41
    · replace h := q_f h c2
      by_cases c4 : p1 = (2 : Int32)
      · replace h := q_t h c4
        refine q_tabIn (off := 41) (tgt := 42) C0 c4 dX9_cubes_1 (by decide) (by decide) rfl (by decide) ?_
        refine lv_aload_n hx hb dX9_cubes_42 rfl (lv_at hl 0 rfl) ?_
        obtain ⟨o5, hco5, h⟩ := q_bind h
        refine q_calll hw (va_runV (As := []) (rest := []) C0 (kX9_never hk hco5 _) (cwV 0 hts gX9_cubes_X9_never rfl rfl rfl eX9_never ⟨(Nat.le_of_ble_eq_true rfl), (Nat.le_of_ble_eq_true rfl)⟩) ⟨q_blind, q_recv hw (mN_0 hk) (mE_0 hk) rfl, q_pre hw⟩ rfl rfl hl.1 rfl (lv_room (Nat.le_of_ble_eq_true rfl)) dX9_cubes_43 ⟨Nat.zero_le _, Nat.zero_le _⟩) (fun H locs hw => ?_)
        exact q_lret h C0 hr hlk hw dX9_cubes_46
      · replace h := q_f h c4
        by_cases c6 : p1 = (3 : Int32)
        · replace h := q_t h c6
          refine q_tabIn (off := 46) (tgt := 47) C0 c6 dX9_cubes_1 (by decide) (by decide) rfl (by decide) ?_
          refine lv_aload_n hx hb dX9_cubes_47 rfl (lv_at hl 0 rfl) ?_
          obtain ⟨o7, hco7, h⟩ := q_bind h
          refine q_calll hw (va_runV (As := []) (rest := []) C0 (kX9_inPieces hk hco7 _) (cwV 0 hts gX9_cubes_X9_inPieces rfl rfl rfl eX9_inPieces ⟨(Nat.le_of_ble_eq_true rfl), (Nat.le_of_ble_eq_true rfl)⟩) ⟨q_blind, q_recv hw (mN_0 hk) (mE_0 hk) rfl, q_pre hw⟩ rfl rfl hl.1 rfl (lv_room (Nat.le_of_ble_eq_true rfl)) dX9_cubes_48 ⟨Nat.zero_le _, Nat.zero_le _⟩) (fun H locs hw => ?_)
          exact q_lret h C0 hr hlk hw dX9_cubes_51
        · replace h := q_f h c6
          have n_c1 := q_neI (n := 0) c1 (by decide)
          have n_c2 := q_neI (n := 1) c2 (by decide)
          have n_c4 := q_neI (n := 2) c4 (by decide)
          have n_c6 := q_neI (n := 3) c6 (by decide)
          refine lv_tableOut (tgt := 52) hx hb dX9_cubes_1 (by omega) (by decide) ?_
          refine lv_lconst (v := (0 : Int64)) hx hb dX9_cubes_52 (by decide) ?_
          exact q_lret h C0 hr hlk hw dX9_cubes_53
-- X9_setOf setOf(I)J
theorem iX9_setOf_X9 : ∀ w ∈ wsX90, w ∈ wsX9_setOf := by decide +kernel
set_option maxHeartbeats 4000000 in
set_option maxRecDepth 100000 in
theorem kX9_setOf {k : Nat} {p1 : Int32} (hk : mB N k) {σ : q_M} {out : Int64 × q_M} (h : fX9_setOf k p1 σ = some out) : q_Ml l (gM D cI cJ cR ad adK adV N) yX9_setOf wsX9_setOf { frames := 2, cells := 0, slots := 0, locals := 46 } [.ref (ad k), .int p1] σ out := by
  refine q_Ml_of (cc := cX9_setOf) (maxL := 2) (ret := (some .long)) (by decide) rfl (Nat.le_of_ble_eq_true rfl) ?_
  intro p e s m below meth c ls C0 hr hlk hl hw
  obtain ⟨hx, hb, hml, hown, hts⟩ := id C0
  replace hl : lv_has ls 2 [(0, .ref (ad k)), (1, .int p1)] := hl
  unfold fX9_setOf at h
  refine lv_aload_n hx hb dX9_setOf_0 rfl (lv_at hl 0 rfl) ?_
  refine lv_iload_n hx hb dX9_setOf_1 rfl (lv_at hl 1 rfl) ?_
  obtain ⟨o1, hco1, h⟩ := q_bind h
  refine q_calli hw (va_runV (As := [.int p1]) (rest := []) C0 (kX9_isPiece hk hco1 _) (cwV 1 hts gX9_setOf_X9_isPiece rfl rfl rfl eX9_isPiece ⟨(Nat.le_of_ble_eq_true rfl), (Nat.le_of_ble_eq_true rfl)⟩) ⟨q_blind, q_recv hw (mN_0 hk) (mE_0 hk) rfl, q_pre hw⟩ rfl rfl hl.1 rfl (lv_room (Nat.le_of_ble_eq_true rfl)) dX9_setOf_2 ⟨Nat.zero_le _, Nat.zero_le _⟩) (fun H locs hw => ?_)
  refine lv_if_eq (tgt := 17) hx hb dX9_setOf_5 (by decide) (fun c2 => ?_) (fun c2 => ?_)
  · replace h := q_t h c2
    refine lv_lconst (v := (0 : Int64)) hx hb dX9_setOf_17 (by decide) ?_
    exact q_lret h C0 hr hlk hw dX9_setOf_18
  · replace h := q_f h c2
    refine lv_aload_n hx hb dX9_setOf_8 rfl (lv_at hl 0 rfl) ?_
    refine gt_X9_14 C0 hw hk iX9_setOf_X9 (by decide +kernel) dX9_setOf_9 ?_
    refine lv_iload_n hx hb dX9_setOf_12 rfl (lv_at hl 1 rfl) ?_
    obtain ⟨b3, h⟩ := q_if h
    refine q_lald (t0 := 1) C0 hw (mN_11 hk) (mE_11 hk) rfl b3 dX9_setOf_13 ?_
    refine lv_goto (tgt := 18) hx hb dX9_setOf_14 (by decide) ?_
    exact q_lret h C0 hr hlk hw dX9_setOf_18
-- X9_hang hang(IJ)J
set_option maxHeartbeats 4000000 in
set_option maxRecDepth 100000 in
theorem tX9_hang_c35 {k : Nat} {p1 : Int32} {p2 : Int64} {rec8 : Int64 → Int64 → q_M → Option (Int64 × q_M)} {rec23 : Int64 → Int64 → Int32 → q_M → Option (Int64 × q_M)} (hk : mB N k) (C0 : CallFix p m c cX9_hang 11 s args wsX9_hang RX9) (hr : meth.sig.returnType = (some .long)) (hlk : meth.locks = false) {out : Int64 × q_M} (hrec8 : ∀ (v4 : Int64) (v6 : Int64) (σ : q_M) (H : Heap) (locs : List Loc) (ls : Array Slot), q_H (gM D cI cJ cR ad adK adV N) (q_A (gM D cI cJ cR ad adK adV N) s.heap.size) s σ H locs → lv_has ls 11 [(0, .ref (ad k)), (2, .long p2), (4, .long v4), (6, .long v6)] → rec8 v4 v6 σ = some out → W p l e { frames := 2, cells := 0, slots := 0, locals := 46 } s m args below meth c H locs 0 0 (MQ below (q_Rl (gM D cI cJ cR ad adK adV N) (q_A (gM D cI cJ cR ad adK adV N) s.heap.size) out) args s 0 0 (q_A (gM D cI cJ cR ad adK adV N) s.heap.size)) (F0 m 8 ls [])) (hrec23 : ∀ (v4 : Int64) (v6 : Int64) (v8 : Int32) (σ : q_M) (H : Heap) (locs : List Loc) (ls : Array Slot), q_H (gM D cI cJ cR ad adK adV N) (q_A (gM D cI cJ cR ad adK adV N) s.heap.size) s σ H locs → lv_has ls 11 [(0, .ref (ad k)), (2, .long p2), (4, .long v4), (6, .long v6), (8, .int v8)] → rec23 v4 v6 v8 σ = some out → W p l e { frames := 2, cells := 0, slots := 0, locals := 46 } s m args below meth c H locs 0 0 (MQ below (q_Rl (gM D cI cJ cR ad adK adV N) (q_A (gM D cI cJ cR ad adK adV N) s.heap.size) out) args s 0 0 (q_A (gM D cI cJ cR ad adK adV N) s.heap.size)) (F0 m 23 ls [])) : ∀ n : Nat, ∀ (v4 : Int64) (v6 : Int64) (v8 : Int32) (v9 : Int32) (σ : q_M) (H : Heap) (locs : List Loc) (ls : Array Slot), q_H (gM D cI cJ cR ad adK adV N) (q_A (gM D cI cJ cR ad adK adV N) s.heap.size) s σ H locs → lv_has ls 11 [(0, .ref (ad k)), (2, .long p2), (4, .long v4), (6, .long v6), (8, .int v8), (9, .int v9)] → fX9_hang_c35 k p1 p2 rec8 rec23 n v4 v6 v8 v9 σ = some out → W p l e { frames := 2, cells := 0, slots := 0, locals := 46 } s m args below meth c H locs 0 0 (MQ below (q_Rl (gM D cI cJ cR ad adK adV N) (q_A (gM D cI cJ cR ad adK adV N) s.heap.size) out) args s 0 0 (q_A (gM D cI cJ cR ad adK adV N) s.heap.size)) (F0 m 35 ls []) := by
  obtain ⟨hx, hb, hml, hown, hts⟩ := id C0
  intro n
  induction n with
  | zero =>
    intro v4 v6 v8 v9 σ H locs ls  hw hl h
    cases (show (none : Option (Int64 × q_M)) = some out from h)
  | succ n hrec35 =>
    intro v4 v6 v8 v9 σ H locs ls  hw hl h
    replace h : fX9_hang_c35b k p1 p2 rec8 rec23 (fX9_hang_c35 k p1 p2 rec8 rec23 n) v4 v6 v8 v9 σ = some out := h
    unfold fX9_hang_c35b at h
    refine lv_lload hx hb dX9_hang_35 (lv_at hl 3 rfl) ?_
    refine lv_iload hx hb dX9_hang_37 (lv_at hl 4 rfl) ?_
    obtain ⟨o1, hco1, h⟩ := q_bind h
    refine q_calli hw (va_runS (As := [.long v6, .int v8]) (rest := []) C0 (kX9_has hco1 _) (va_cwS 2 hts gX9_hang_X9_has rfl rfl rfl eX9_has ⟨(Nat.le_of_ble_eq_true rfl), (Nat.le_of_ble_eq_true rfl)⟩) ⟨q_blind, q_pre hw⟩ rfl rfl hl.1 rfl (lv_room (Nat.le_of_ble_eq_true rfl)) dX9_hang_39 ⟨Nat.zero_le _, Nat.zero_le _⟩) (fun H locs hw => ?_)
    refine lv_if_eq (tgt := 96) hx hb dX9_hang_42 (by decide) (fun c2 => ?_) (fun c2 => ?_)
    · replace h := q_t h c2
      refine lv_iinc (v := (v8 + (1 : Int32))) (lv' := [(8, .int (v8 + (1 : Int32))), (0, .ref (ad k)), (2, .long p2), (4, .long v4), (6, .long v6), (9, .int v9)]) hx hb dX9_hang_96 hl (k := 4) rfl rfl (by decide) rfl (fun ls hl => ?_)
      refine lv_goto (tgt := 23) hx hb dX9_hang_99 (by decide) ?_
      exact hrec23 v4 v6 (v8 + (1 : Int32)) o1.2 _ _ _ hw (lv_sub hl [1, 2, 3, 4, 0] rfl) h
    · replace h := q_f h c2
      refine lv_iload hx hb dX9_hang_45 (lv_at hl 5 rfl) ?_
      refine lv_bipush (v := (6 : Int32)) hx hb dX9_hang_47 (by decide) ?_
      refine lv_icmp_ge (tgt := 96) hx hb dX9_hang_49 (by decide) (fun c3 => ?_) (fun c3 => ?_)
      · replace h := q_t h c3
        refine lv_iinc (v := (v8 + (1 : Int32))) (lv' := [(8, .int (v8 + (1 : Int32))), (0, .ref (ad k)), (2, .long p2), (4, .long v4), (6, .long v6), (9, .int v9)]) hx hb dX9_hang_96 hl (k := 4) rfl rfl (by decide) rfl (fun ls hl => ?_)
        refine lv_goto (tgt := 23) hx hb dX9_hang_99 (by decide) ?_
        exact hrec23 v4 v6 (v8 + (1 : Int32)) o1.2 _ _ _ hw (lv_sub hl [1, 2, 3, 4, 0] rfl) h
      · replace h := q_f h c3
        refine lv_aload_n hx hb dX9_hang_52 rfl (lv_at hl 0 rfl) ?_
        refine lv_iload hx hb dX9_hang_53 (lv_at hl 4 rfl) ?_
        refine lv_iload hx hb dX9_hang_55 (lv_at hl 5 rfl) ?_
        obtain ⟨o4, hco4, h⟩ := q_bind h
        refine q_calli hw (va_runV (As := [.int v8, .int v9]) (rest := []) C0 (kX9_from hk hco4 _) (cwV 2 hts gX9_hang_X9_from rfl rfl rfl eX9_from ⟨(Nat.le_of_ble_eq_true rfl), (Nat.le_of_ble_eq_true rfl)⟩) ⟨q_blind, q_recv hw (mN_0 hk) (mE_0 hk) rfl, q_pre hw⟩ rfl rfl hl.1 rfl (lv_room (Nat.le_of_ble_eq_true rfl)) dX9_hang_57 ⟨Nat.zero_le _, Nat.zero_le _⟩) (fun H locs hw => ?_)
        refine lv_istore (lv' := [(10, .int o4.1), (0, .ref (ad k)), (2, .long p2), (4, .long v4), (6, .long v6), (8, .int v8), (9, .int v9)]) hx hb dX9_hang_60 hl (by decide) rfl (fun ls hl => ?_)
        refine lv_lload hx hb dX9_hang_62 (lv_at hl 3 rfl) ?_
        refine lv_iload hx hb dX9_hang_64 (lv_at hl 0 rfl) ?_
        refine lv_iconst (v := (-1 : Int32)) hx hb dX9_hang_66 (by decide) ?_
        refine lv_icmp_eq (tgt := 86) hx hb dX9_hang_67 (by decide) (fun c5 => ?_) (fun c5 => ?_)
        · replace h := q_t h c5
          refine lv_lconst (v := (0 : Int64)) hx hb dX9_hang_86 (by decide) ?_
          refine lv_lor hx hb dX9_hang_87 ?_
          refine lv_lstore (lv' := [(4, .long (v4 ||| (0 : Int64))), (10, .int o4.1), (0, .ref (ad k)), (2, .long p2), (6, .long v6), (8, .int v8), (9, .int v9)]) hx hb dX9_hang_88 hl (by decide) rfl (fun ls hl => ?_)
          refine lv_iinc (v := (v9 + (1 : Int32))) (lv' := [(9, .int (v9 + (1 : Int32))), (4, .long (v4 ||| (0 : Int64))), (10, .int o4.1), (0, .ref (ad k)), (2, .long p2), (6, .long v6), (8, .int v8)]) hx hb dX9_hang_90 hl (k := 6) rfl rfl (by decide) rfl (fun ls hl => ?_)
          refine lv_goto (tgt := 35) hx hb dX9_hang_93 (by decide) ?_
          exact hrec35 (v4 ||| (0 : Int64)) v6 v8 (v9 + (1 : Int32)) o4.2 _ _ _ hw (lv_sub hl [3, 4, 1, 5, 6, 0] rfl) h
        · replace h := q_f h c5
          refine lv_lload_n hx hb dX9_hang_70 rfl (lv_at hl 2 rfl) ?_
          refine lv_iload hx hb dX9_hang_71 (lv_at hl 0 rfl) ?_
          obtain ⟨o6, hco6, h⟩ := q_bind h
          refine q_calli hw (va_runS (As := [.long p2, .int o4.1]) (rest := [.long v4]) C0 (kX9_has hco6 _) (va_cwS 2 hts gX9_hang_X9_has rfl rfl rfl eX9_has ⟨(Nat.le_of_ble_eq_true rfl), (Nat.le_of_ble_eq_true rfl)⟩) ⟨q_blind, q_pre hw⟩ rfl rfl hl.1 rfl (lv_room (Nat.le_of_ble_eq_true rfl)) dX9_hang_73 ⟨Nat.zero_le _, Nat.zero_le _⟩) (fun H locs hw => ?_)
          refine lv_if_eq (tgt := 86) hx hb dX9_hang_76 (by decide) (fun c7 => ?_) (fun c7 => ?_)
          · replace h := q_t h c7
            refine lv_lconst (v := (0 : Int64)) hx hb dX9_hang_86 (by decide) ?_
            refine lv_lor hx hb dX9_hang_87 ?_
            refine lv_lstore (lv' := [(4, .long (v4 ||| (0 : Int64))), (10, .int o4.1), (0, .ref (ad k)), (2, .long p2), (6, .long v6), (8, .int v8), (9, .int v9)]) hx hb dX9_hang_88 hl (by decide) rfl (fun ls hl => ?_)
            refine lv_iinc (v := (v9 + (1 : Int32))) (lv' := [(9, .int (v9 + (1 : Int32))), (4, .long (v4 ||| (0 : Int64))), (10, .int o4.1), (0, .ref (ad k)), (2, .long p2), (6, .long v6), (8, .int v8)]) hx hb dX9_hang_90 hl (k := 6) rfl rfl (by decide) rfl (fun ls hl => ?_)
            refine lv_goto (tgt := 35) hx hb dX9_hang_93 (by decide) ?_
            exact hrec35 (v4 ||| (0 : Int64)) v6 v8 (v9 + (1 : Int32)) o6.2 _ _ _ hw (lv_sub hl [3, 4, 1, 5, 6, 0] rfl) h
          · replace h := q_f h c7
            refine lv_lconst (v := (1 : Int64)) hx hb dX9_hang_79 (by decide) ?_
            refine lv_iload hx hb dX9_hang_80 (lv_at hl 0 rfl) ?_
            refine lv_lshl (v := (q_shl (1 : Int64) o4.1)) hx hb dX9_hang_82 rfl ?_
            refine lv_goto (tgt := 87) hx hb dX9_hang_83 (by decide) ?_
            refine lv_lor hx hb dX9_hang_87 ?_
            refine lv_topl (fun x8 e_x8 => ?_)
            replace h := q_let_at e_x8 h
            refine lv_lstore (lv' := [(4, .long x8), (10, .int o4.1), (0, .ref (ad k)), (2, .long p2), (6, .long v6), (8, .int v8), (9, .int v9)]) hx hb dX9_hang_88 hl (by decide) rfl (fun ls hl => ?_)
            refine lv_iinc (v := (v9 + (1 : Int32))) (lv' := [(9, .int (v9 + (1 : Int32))), (4, .long x8), (10, .int o4.1), (0, .ref (ad k)), (2, .long p2), (6, .long v6), (8, .int v8)]) hx hb dX9_hang_90 hl (k := 6) rfl rfl (by decide) rfl (fun ls hl => ?_)
            refine lv_goto (tgt := 35) hx hb dX9_hang_93 (by decide) ?_
            exact hrec35 x8 v6 v8 (v9 + (1 : Int32)) o6.2 _ _ _ hw (lv_sub hl [3, 4, 1, 5, 6, 0] rfl) h
set_option maxHeartbeats 4000000 in
set_option maxRecDepth 100000 in
theorem tX9_hang_c23 {k : Nat} {p1 : Int32} {p2 : Int64} {rec8 : Int64 → Int64 → q_M → Option (Int64 × q_M)} (hk : mB N k) (C0 : CallFix p m c cX9_hang 11 s args wsX9_hang RX9) (hr : meth.sig.returnType = (some .long)) (hlk : meth.locks = false) {out : Int64 × q_M} (hrec8 : ∀ (v4 : Int64) (v6 : Int64) (σ : q_M) (H : Heap) (locs : List Loc) (ls : Array Slot), q_H (gM D cI cJ cR ad adK adV N) (q_A (gM D cI cJ cR ad adK adV N) s.heap.size) s σ H locs → lv_has ls 11 [(0, .ref (ad k)), (2, .long p2), (4, .long v4), (6, .long v6)] → rec8 v4 v6 σ = some out → W p l e { frames := 2, cells := 0, slots := 0, locals := 46 } s m args below meth c H locs 0 0 (MQ below (q_Rl (gM D cI cJ cR ad adK adV N) (q_A (gM D cI cJ cR ad adK adV N) s.heap.size) out) args s 0 0 (q_A (gM D cI cJ cR ad adK adV N) s.heap.size)) (F0 m 8 ls [])) : ∀ n : Nat, ∀ (v4 : Int64) (v6 : Int64) (v8 : Int32) (σ : q_M) (H : Heap) (locs : List Loc) (ls : Array Slot), q_H (gM D cI cJ cR ad adK adV N) (q_A (gM D cI cJ cR ad adK adV N) s.heap.size) s σ H locs → lv_has ls 11 [(0, .ref (ad k)), (2, .long p2), (4, .long v4), (6, .long v6), (8, .int v8)] → fX9_hang_c23 k p1 p2 rec8 n v4 v6 v8 σ = some out → W p l e { frames := 2, cells := 0, slots := 0, locals := 46 } s m args below meth c H locs 0 0 (MQ below (q_Rl (gM D cI cJ cR ad adK adV N) (q_A (gM D cI cJ cR ad adK adV N) s.heap.size) out) args s 0 0 (q_A (gM D cI cJ cR ad adK adV N) s.heap.size)) (F0 m 23 ls []) := by
  obtain ⟨hx, hb, hml, hown, hts⟩ := id C0
  intro n
  induction n with
  | zero =>
    intro v4 v6 v8 σ H locs ls  hw hl h
    cases (show (none : Option (Int64 × q_M)) = some out from h)
  | succ n hrec23 =>
    intro v4 v6 v8 σ H locs ls  hw hl h
    replace h : fX9_hang_c23b k p1 p2 rec8 (fX9_hang_c23 k p1 p2 rec8 n) v4 v6 v8 σ = some out := h
    unfold fX9_hang_c23b at h
    refine lv_iload hx hb dX9_hang_23 (lv_at hl 4 rfl) ?_
    refine lv_aload_n hx hb dX9_hang_25 rfl (lv_at hl 0 rfl) ?_
    obtain ⟨o1, hco1, h⟩ := q_bind h
    refine q_calli hw (va_runV (As := []) (rest := [.int v8]) C0 (kX9_many hk hco1 _) (cwV 0 hts gX9_hang_X9_many rfl rfl rfl eX9_many ⟨(Nat.le_of_ble_eq_true rfl), (Nat.le_of_ble_eq_true rfl)⟩) ⟨q_blind, q_recv hw (mN_0 hk) (mE_0 hk) rfl, q_pre hw⟩ rfl rfl hl.1 rfl (lv_room (Nat.le_of_ble_eq_true rfl)) dX9_hang_26 ⟨Nat.zero_le _, Nat.zero_le _⟩) (fun H locs hw => ?_)
    refine lv_icmp_ge (tgt := 102) hx hb dX9_hang_29 (by decide) (fun c2 => ?_) (fun c2 => ?_)
    · replace h := q_t h c2
      refine lv_goto (tgt := 8) hx hb dX9_hang_102 (by decide) ?_
      exact hrec8 v4 v6 o1.2 _ _ _ hw (lv_sub hl [0, 1, 2, 3] rfl) h
    · replace h := q_f h c2
      refine lv_iconst (v := (0 : Int32)) hx hb dX9_hang_32 (by decide) ?_
      refine lv_istore (lv' := [(9, .int (0 : Int32)), (0, .ref (ad k)), (2, .long p2), (4, .long v4), (6, .long v6), (8, .int v8)]) hx hb dX9_hang_33 hl (by decide) rfl (fun ls hl => ?_)
      exact tX9_hang_c35 hk C0 hr hlk hrec8 hrec23 q_FU v4 v6 v8 (0 : Int32) o1.2 _ _ _ hw (lv_sub hl [1, 2, 3, 4, 5, 0] rfl) h
set_option maxHeartbeats 4000000 in
set_option maxRecDepth 100000 in
theorem tX9_hang_c8 {k : Nat} {p1 : Int32} {p2 : Int64} (hk : mB N k) (C0 : CallFix p m c cX9_hang 11 s args wsX9_hang RX9) (hr : meth.sig.returnType = (some .long)) (hlk : meth.locks = false) {out : Int64 × q_M}  : ∀ n : Nat, ∀ (v4 : Int64) (v6 : Int64) (σ : q_M) (H : Heap) (locs : List Loc) (ls : Array Slot), q_H (gM D cI cJ cR ad adK adV N) (q_A (gM D cI cJ cR ad adK adV N) s.heap.size) s σ H locs → lv_has ls 11 [(0, .ref (ad k)), (2, .long p2), (4, .long v4), (6, .long v6)] → fX9_hang_c8 k p1 p2 n v4 v6 σ = some out → W p l e { frames := 2, cells := 0, slots := 0, locals := 46 } s m args below meth c H locs 0 0 (MQ below (q_Rl (gM D cI cJ cR ad adK adV N) (q_A (gM D cI cJ cR ad adK adV N) s.heap.size) out) args s 0 0 (q_A (gM D cI cJ cR ad adK adV N) s.heap.size)) (F0 m 8 ls []) := by
  obtain ⟨hx, hb, hml, hown, hts⟩ := id C0
  intro n
  induction n with
  | zero =>
    intro v4 v6 σ H locs ls  hw hl h
    cases (show (none : Option (Int64 × q_M)) = some out from h)
  | succ n hrec8 =>
    intro v4 v6 σ H locs ls  hw hl h
    replace h : fX9_hang_c8b k p1 p2 (fX9_hang_c8 k p1 p2 n) v4 v6 σ = some out := h
    unfold fX9_hang_c8b at h
    refine lv_lload hx hb dX9_hang_8 (lv_at hl 2 rfl) ?_
    refine lv_lload hx hb dX9_hang_10 (lv_at hl 3 rfl) ?_
    refine q_lcmp_eq (tgt := 105) C0 dX9_hang_12 dX9_hang_13 (by decide) (fun c1 => ?_) (fun c1 => ?_)
    · replace h := q_t h c1
      refine lv_lload hx hb dX9_hang_105 (lv_at hl 2 rfl) ?_
      exact q_lret h C0 hr hlk hw dX9_hang_107
    · replace h := q_f h c1
      refine lv_lload hx hb dX9_hang_16 (lv_at hl 2 rfl) ?_
      refine lv_lstore (lv' := [(6, .long v4), (0, .ref (ad k)), (2, .long p2), (4, .long v4)]) hx hb dX9_hang_18 hl (by decide) rfl (fun ls hl => ?_)
      refine lv_iconst (v := (0 : Int32)) hx hb dX9_hang_20 (by decide) ?_
      refine lv_istore (lv' := [(8, .int (0 : Int32)), (6, .long v4), (0, .ref (ad k)), (2, .long p2), (4, .long v4)]) hx hb dX9_hang_21 hl (by decide) rfl (fun ls hl => ?_)
      exact tX9_hang_c23 hk C0 hr hlk hrec8 q_FU v4 v4 (0 : Int32) σ _ _ _ hw (lv_sub hl [2, 3, 4, 1, 0] rfl) h
set_option maxHeartbeats 4000000 in
set_option maxRecDepth 100000 in
theorem kX9_hang {k : Nat} {p1 : Int32} {p2 : Int64} (hk : mB N k) {σ : q_M} {out : Int64 × q_M} (h : fX9_hang k p1 p2 σ = some out) : q_Ml l (gM D cI cJ cR ad adK adV N) yX9_hang wsX9_hang { frames := 2, cells := 0, slots := 0, locals := 46 } [.ref (ad k), .int p1, .long p2] σ out := by
  refine q_Ml_of (cc := cX9_hang) (maxL := 11) (ret := (some .long)) (by decide) rfl (Nat.le_of_ble_eq_true rfl) ?_
  intro p e s m below meth c ls C0 hr hlk hl hw
  obtain ⟨hx, hb, hml, hown, hts⟩ := id C0
  replace hl : lv_has ls 11 [(0, .ref (ad k)), (1, .int p1), (2, .long p2)] := hl
  unfold fX9_hang at h
  refine lv_lconst (v := (1 : Int64)) hx hb dX9_hang_0 (by decide) ?_
  refine lv_iload_n hx hb dX9_hang_1 rfl (lv_at hl 1 rfl) ?_
  refine lv_lshl (v := (q_shl (1 : Int64) p1)) hx hb dX9_hang_2 rfl ?_
  refine lv_lstore (lv' := [(4, .long (q_shl (1 : Int64) p1)), (0, .ref (ad k)), (1, .int p1), (2, .long p2)]) hx hb dX9_hang_3 hl (by decide) rfl (fun ls hl => ?_)
  refine lv_lconst (v := (0 : Int64)) hx hb dX9_hang_5 (by decide) ?_
  refine lv_lstore (lv' := [(6, .long (0 : Int64)), (4, .long (q_shl (1 : Int64) p1)), (0, .ref (ad k)), (1, .int p1), (2, .long p2)]) hx hb dX9_hang_6 hl (by decide) rfl (fun ls hl => ?_)
  exact tX9_hang_c8 hk C0 hr hlk q_FU (q_shl (1 : Int64) p1) (0 : Int64) σ _ _ _ hw (lv_sub hl [2, 4, 1, 0] rfl) h
-- X9_partsOf partsOf(J)I
theorem eX9_hang : yX9_hang.cls = RX9 ∧ yX9_hang.cls ≠ "java/lang/invoke/MethodHandle" ∧ yX9_hang.cls ≠ "java/lang/invoke/VarHandle" ∧ (parseMethodDescriptor yX9_hang.desc).map (fun d => d.parameters.length) = some 2 := by decide +kernel
set_option maxHeartbeats 4000000 in
set_option maxRecDepth 100000 in
theorem tX9_partsOf_c8 {k : Nat} {p1 : Int64} (hk : mB N k) (C0 : CallFix p m c cX9_partsOf 7 s args wsX9_partsOf RX9) (hr : meth.sig.returnType = (some .int)) (hlk : meth.locks = false) {out : Int32 × q_M}  : ∀ n : Nat, ∀ (v3 : Int64) (v5 : Int32) (v6 : Int32) (σ : q_M) (H : Heap) (locs : List Loc) (ls : Array Slot), q_H (gM D cI cJ cR ad adK adV N) (q_A (gM D cI cJ cR ad adK adV N) s.heap.size) s σ H locs → lv_has ls 7 [(0, .ref (ad k)), (1, .long p1), (3, .long v3), (5, .int v5), (6, .int v6)] → fX9_partsOf_c8 k p1 n v3 v5 v6 σ = some out → W p l e { frames := 3, cells := 0, slots := 0, locals := 76 } s m args below meth c H locs 0 0 (MQ below (q_Ri (gM D cI cJ cR ad adK adV N) (q_A (gM D cI cJ cR ad adK adV N) s.heap.size) out) args s 0 0 (q_A (gM D cI cJ cR ad adK adV N) s.heap.size)) (F0 m 8 ls []) := by
  obtain ⟨hx, hb, hml, hown, hts⟩ := id C0
  intro n
  induction n with
  | zero =>
    intro v3 v5 v6 σ H locs ls  hw hl h
    cases (show (none : Option (Int32 × q_M)) = some out from h)
  | succ n hrec8 =>
    intro v3 v5 v6 σ H locs ls  hw hl h
    replace h : fX9_partsOf_c8b k p1 (fX9_partsOf_c8 k p1 n) v3 v5 v6 σ = some out := h
    unfold fX9_partsOf_c8b at h
    refine lv_iload hx hb dX9_partsOf_8 (lv_at hl 4 rfl) ?_
    refine lv_aload_n hx hb dX9_partsOf_10 rfl (lv_at hl 0 rfl) ?_
    obtain ⟨o1, hco1, h⟩ := q_bind h
    refine q_calli hw (va_runV (As := []) (rest := [.int v6]) C0 (kX9_many hk hco1 _) (cwV 0 hts gX9_partsOf_X9_many rfl rfl rfl eX9_many ⟨(Nat.le_of_ble_eq_true rfl), (Nat.le_of_ble_eq_true rfl)⟩) ⟨q_blind, q_recv hw (mN_0 hk) (mE_0 hk) rfl, q_pre hw⟩ rfl rfl hl.1 rfl (lv_room (Nat.le_of_ble_eq_true rfl)) dX9_partsOf_11 ⟨Nat.zero_le _, Nat.zero_le _⟩) (fun H locs hw => ?_)
    refine lv_icmp_ge (tgt := 49) hx hb dX9_partsOf_14 (by decide) (fun c2 => ?_) (fun c2 => ?_)
    · replace h := q_t h c2
      refine lv_iload hx hb dX9_partsOf_49 (lv_at hl 3 rfl) ?_
      exact q_iret h C0 hr hlk hw dX9_partsOf_51
    · replace h := q_f h c2
      refine lv_lload_n hx hb dX9_partsOf_17 rfl (lv_at hl 2 rfl) ?_
      refine lv_iload hx hb dX9_partsOf_18 (lv_at hl 4 rfl) ?_
      obtain ⟨o3, hco3, h⟩ := q_bind h
      refine q_calli hw (va_runS (As := [.long v3, .int v6]) (rest := []) C0 (kX9_has hco3 _) (va_cwS 2 hts gX9_partsOf_X9_has rfl rfl rfl eX9_has ⟨(Nat.le_of_ble_eq_true rfl), (Nat.le_of_ble_eq_true rfl)⟩) ⟨q_blind, q_pre hw⟩ rfl rfl hl.1 rfl (lv_room (Nat.le_of_ble_eq_true rfl)) dX9_partsOf_20 ⟨Nat.zero_le _, Nat.zero_le _⟩) (fun H locs hw => ?_)
      refine lv_if_eq (tgt := 43) hx hb dX9_partsOf_23 (by decide) (fun c4 => ?_) (fun c4 => ?_)
      · replace h := q_t h c4
        refine lv_iinc (v := (v6 + (1 : Int32))) (lv' := [(6, .int (v6 + (1 : Int32))), (0, .ref (ad k)), (1, .long p1), (3, .long v3), (5, .int v5)]) hx hb dX9_partsOf_43 hl (k := 4) rfl rfl (by decide) rfl (fun ls hl => ?_)
        refine lv_goto (tgt := 8) hx hb dX9_partsOf_46 (by decide) ?_
        exact hrec8 v3 v5 (v6 + (1 : Int32)) o3.2 _ _ _ hw (lv_sub hl [1, 2, 3, 4, 0] rfl) h
      · replace h := q_f h c4
        refine lv_lload_n hx hb dX9_partsOf_26 rfl (lv_at hl 2 rfl) ?_
        refine lv_aload_n hx hb dX9_partsOf_27 rfl (lv_at hl 0 rfl) ?_
        refine lv_iload hx hb dX9_partsOf_28 (lv_at hl 4 rfl) ?_
        refine lv_lload_n hx hb dX9_partsOf_30 rfl (lv_at hl 1 rfl) ?_
        obtain ⟨o5, hco5, h⟩ := q_bind h
        refine q_calll hw (va_runV (As := [.int v6, .long p1]) (rest := [.long v3]) C0 (kX9_hang hk hco5 _) (cwV 2 hts gX9_partsOf_X9_hang rfl rfl rfl eX9_hang ⟨(Nat.le_of_ble_eq_true rfl), (Nat.le_of_ble_eq_true rfl)⟩) ⟨q_blind, q_recv hw (mN_0 hk) (mE_0 hk) rfl, q_pre hw⟩ rfl rfl hl.1 rfl (lv_room (Nat.le_of_ble_eq_true rfl)) dX9_partsOf_31 ⟨Nat.zero_le _, Nat.zero_le _⟩) (fun H locs hw => ?_)
        refine lv_ldc2 (v := (-1 : Int64)) hx hb hown (hts (.constantLong RX9 100 (-1)) (by decide +kernel)) dX9_partsOf_34 ?_
        refine lv_lxor hx hb dX9_partsOf_37 ?_
        refine lv_land hx hb dX9_partsOf_38 ?_
        refine lv_topl (fun x6 e_x6 => ?_)
        replace h := q_let_at e_x6 h
        refine lv_lstore_n (lv' := [(3, .long x6), (0, .ref (ad k)), (1, .long p1), (5, .int v5), (6, .int v6)]) hx hb dX9_partsOf_39 rfl hl (by decide) rfl (fun ls hl => ?_)
        refine lv_iinc (v := (v5 + (1 : Int32))) (lv' := [(5, .int (v5 + (1 : Int32))), (3, .long x6), (0, .ref (ad k)), (1, .long p1), (6, .int v6)]) hx hb dX9_partsOf_40 hl (k := 3) rfl rfl (by decide) rfl (fun ls hl => ?_)
        refine lv_iinc (v := (v6 + (1 : Int32))) (lv' := [(6, .int (v6 + (1 : Int32))), (5, .int (v5 + (1 : Int32))), (3, .long x6), (0, .ref (ad k)), (1, .long p1)]) hx hb dX9_partsOf_43 hl (k := 4) rfl rfl (by decide) rfl (fun ls hl => ?_)
        refine lv_goto (tgt := 8) hx hb dX9_partsOf_46 (by decide) ?_
        exact hrec8 x6 (v5 + (1 : Int32)) (v6 + (1 : Int32)) o5.2 _ _ _ hw (lv_sub hl [3, 4, 2, 1, 0] rfl) h
set_option maxHeartbeats 4000000 in
set_option maxRecDepth 100000 in
theorem kX9_partsOf {k : Nat} {p1 : Int64} (hk : mB N k) {σ : q_M} {out : Int32 × q_M} (h : fX9_partsOf k p1 σ = some out) : q_Mi l (gM D cI cJ cR ad adK adV N) yX9_partsOf wsX9_partsOf { frames := 3, cells := 0, slots := 0, locals := 76 } [.ref (ad k), .long p1] σ out := by
  refine q_Mi_of (cc := cX9_partsOf) (maxL := 7) (ret := (some .int)) (by decide) rfl (Nat.le_of_ble_eq_true rfl) ?_
  intro p e s m below meth c ls C0 hr hlk hl hw
  obtain ⟨hx, hb, hml, hown, hts⟩ := id C0
  replace hl : lv_has ls 7 [(0, .ref (ad k)), (1, .long p1)] := hl
  unfold fX9_partsOf at h
  refine lv_lload_n hx hb dX9_partsOf_0 rfl (lv_at hl 1 rfl) ?_
  refine lv_lstore_n (lv' := [(3, .long p1), (0, .ref (ad k)), (1, .long p1)]) hx hb dX9_partsOf_1 rfl hl (by decide) rfl (fun ls hl => ?_)
  refine lv_iconst (v := (0 : Int32)) hx hb dX9_partsOf_2 (by decide) ?_
  refine lv_istore (lv' := [(5, .int (0 : Int32)), (3, .long p1), (0, .ref (ad k)), (1, .long p1)]) hx hb dX9_partsOf_3 hl (by decide) rfl (fun ls hl => ?_)
  refine lv_iconst (v := (0 : Int32)) hx hb dX9_partsOf_5 (by decide) ?_
  refine lv_istore (lv' := [(6, .int (0 : Int32)), (5, .int (0 : Int32)), (3, .long p1), (0, .ref (ad k)), (1, .long p1)]) hx hb dX9_partsOf_6 hl (by decide) rfl (fun ls hl => ?_)
  exact tX9_partsOf_c8 hk C0 hr hlk q_FU p1 (0 : Int32) (0 : Int32) σ _ _ _ hw (lv_sub hl [3, 4, 2, 1, 0] rfl) h
-- X9_whole whole(J)I
theorem eX9_partsOf : yX9_partsOf.cls = RX9 ∧ yX9_partsOf.cls ≠ "java/lang/invoke/MethodHandle" ∧ yX9_partsOf.cls ≠ "java/lang/invoke/VarHandle" ∧ (parseMethodDescriptor yX9_partsOf.desc).map (fun d => d.parameters.length) = some 1 := by decide +kernel
set_option maxHeartbeats 4000000 in
set_option maxRecDepth 100000 in
theorem kX9_whole {k : Nat} {p1 : Int64} (hk : mB N k) {σ : q_M} {out : Int32 × q_M} (h : fX9_whole k p1 σ = some out) : q_Mi l (gM D cI cJ cR ad adK adV N) yX9_whole wsX9_whole { frames := 4, cells := 0, slots := 0, locals := 102 } [.ref (ad k), .long p1] σ out := by
  refine q_Mi_of (cc := cX9_whole) (maxL := 3) (ret := (some .int)) (by decide) rfl (Nat.le_of_ble_eq_true rfl) ?_
  intro p e s m below meth c ls C0 hr hlk hl hw
  obtain ⟨hx, hb, hml, hown, hts⟩ := id C0
  replace hl : lv_has ls 3 [(0, .ref (ad k)), (1, .long p1)] := hl
  unfold fX9_whole at h
  refine lv_aload_n hx hb dX9_whole_0 rfl (lv_at hl 0 rfl) ?_
  refine lv_lload_n hx hb dX9_whole_1 rfl (lv_at hl 1 rfl) ?_
  refine lv_aload_n hx hb dX9_whole_2 rfl (lv_at hl 0 rfl) ?_
  obtain ⟨o1, hco1, h⟩ := q_bind h
  refine q_calll hw (va_runV (As := []) (rest := [.long p1, .ref (ad k)]) C0 (kX9_block hk hco1 _) (cwV 0 hts gX9_whole_X9_block rfl rfl rfl eX9_block ⟨(Nat.le_of_ble_eq_true rfl), (Nat.le_of_ble_eq_true rfl)⟩) ⟨q_blind, q_recv hw (mN_0 hk) (mE_0 hk) rfl, q_pre hw⟩ rfl rfl hl.1 rfl (lv_room (Nat.le_of_ble_eq_true rfl)) dX9_whole_3 ⟨Nat.zero_le _, Nat.zero_le _⟩) (fun H locs hw => ?_)
  refine lv_land hx hb dX9_whole_6 ?_
  obtain ⟨o2, hco2, h⟩ := q_bind h
  refine q_calli hw (va_runV (As := [.long (p1 &&& o1.1)]) (rest := []) C0 (kX9_partsOf hk hco2 _) (cwV 1 hts gX9_whole_X9_partsOf rfl rfl rfl eX9_partsOf ⟨(Nat.le_of_ble_eq_true rfl), (Nat.le_of_ble_eq_true rfl)⟩) ⟨q_blind, q_recv hw (mN_0 hk) (mE_0 hk) rfl, q_pre hw⟩ rfl rfl hl.1 rfl (lv_room (Nat.le_of_ble_eq_true rfl)) dX9_whole_7 ⟨Nat.zero_le _, Nat.zero_le _⟩) (fun H locs hw => ?_)
  refine lv_iconst (v := (1 : Int32)) hx hb dX9_whole_10 (by decide) ?_
  refine lv_icmp_gt (tgt := 18) hx hb dX9_whole_11 (by decide) (fun c3 => ?_) (fun c3 => ?_)
  · replace h := q_t h c3
    refine lv_iconst (v := (0 : Int32)) hx hb dX9_whole_18 (by decide) ?_
    exact q_iret h C0 hr hlk hw dX9_whole_19
  · replace h := q_f h c3
    refine lv_iconst (v := (1 : Int32)) hx hb dX9_whole_14 (by decide) ?_
    refine lv_goto (tgt := 19) hx hb dX9_whole_15 (by decide) ?_
    exact q_iret h C0 hr hlk hw dX9_whole_19
-- X9_parts parts()I
theorem iX9_parts_X9 : ∀ w ∈ wsX90, w ∈ wsX9_parts := by decide +kernel
set_option maxHeartbeats 4000000 in
set_option maxRecDepth 100000 in
theorem kX9_parts {k : Nat} (hk : mB N k) {σ : q_M} {out : Int32 × q_M} (h : fX9_parts k σ = some out) : q_Mi l (gM D cI cJ cR ad adK adV N) yX9_parts wsX9_parts { frames := 4, cells := 0, slots := 0, locals := 102 } [.ref (ad k)] σ out := by
  refine q_Mi_of (cc := cX9_parts) (maxL := 1) (ret := (some .int)) (by decide) rfl (Nat.le_of_ble_eq_true rfl) ?_
  intro p e s m below meth c ls C0 hr hlk hl hw
  obtain ⟨hx, hb, hml, hown, hts⟩ := id C0
  replace hl : lv_has ls 1 [(0, .ref (ad k))] := hl
  unfold fX9_parts at h
  refine lv_aload_n hx hb dX9_parts_0 rfl (lv_at hl 0 rfl) ?_
  refine lv_aload_n hx hb dX9_parts_1 rfl (lv_at hl 0 rfl) ?_
  refine gt_X9_12 C0 hw hk iX9_parts_X9 (by decide +kernel) dX9_parts_2 ?_
  obtain ⟨o1, hco1, h⟩ := q_bind h
  refine q_calli hw (va_runV (As := [.long (σ.2 k 12)]) (rest := []) C0 (kX9_partsOf hk hco1 _) (cwV 1 hts gX9_parts_X9_partsOf rfl rfl rfl eX9_partsOf ⟨(Nat.le_of_ble_eq_true rfl), (Nat.le_of_ble_eq_true rfl)⟩) ⟨q_blind, q_recv hw (mN_0 hk) (mE_0 hk) rfl, q_pre hw⟩ rfl rfl hl.1 rfl (lv_room (Nat.le_of_ble_eq_true rfl)) dX9_parts_5 ⟨Nat.zero_le _, Nat.zero_le _⟩) (fun H locs hw => ?_)
  exact q_iret h C0 hr hlk hw dX9_parts_8
-- X9_comes comes(IJ)I
theorem iX9_comes_X9 : ∀ w ∈ wsX90, w ∈ wsX9_comes := by decide +kernel
theorem eX9_noMove : yX9_noMove.cls = RX9 ∧ yX9_noMove.cls ≠ "java/lang/invoke/MethodHandle" ∧ yX9_noMove.cls ≠ "java/lang/invoke/VarHandle" ∧ (parseMethodDescriptor yX9_noMove.desc).map (fun d => d.parameters.length) = some 1 := by decide +kernel
set_option maxHeartbeats 4000000 in
set_option maxRecDepth 100000 in
theorem kX9_comes {k : Nat} {p1 : Int32} {p2 : Int64} (hk : mB N k) {σ : q_M} {out : Int32 × q_M} (h : fX9_comes k p1 p2 σ = some out) : q_Mi l (gM D cI cJ cR ad adK adV N) yX9_comes wsX9_comes { frames := 4, cells := 0, slots := 0, locals := 104 } [.ref (ad k), .int p1, .long p2] σ out := by
  refine q_Mi_of (cc := cX9_comes) (maxL := 5) (ret := (some .int)) (by decide) rfl (Nat.le_of_ble_eq_true rfl) ?_
  intro p e s m below meth c ls C0 hr hlk hl hw
  obtain ⟨hx, hb, hml, hown, hts⟩ := id C0
  replace hl : lv_has ls 5 [(0, .ref (ad k)), (1, .int p1), (2, .long p2)] := hl
  unfold fX9_comes at h
  refine lv_aload_n hx hb dX9_comes_0 rfl (lv_at hl 0 rfl) ?_
  refine lv_iload_n hx hb dX9_comes_1 rfl (lv_at hl 1 rfl) ?_
  obtain ⟨o1, hco1, h⟩ := q_bind h
  refine q_calli hw (va_runV (As := [.int p1]) (rest := []) C0 (kX9_noMove hk hco1 _) (cwV 1 hts gX9_comes_X9_noMove rfl rfl rfl eX9_noMove ⟨(Nat.le_of_ble_eq_true rfl), (Nat.le_of_ble_eq_true rfl)⟩) ⟨q_blind, q_recv hw (mN_0 hk) (mE_0 hk) rfl, q_pre hw⟩ rfl rfl hl.1 rfl (lv_room (Nat.le_of_ble_eq_true rfl)) dX9_comes_2 ⟨Nat.zero_le _, Nat.zero_le _⟩) (fun H locs hw => ?_)
  refine lv_istore (lv' := [(4, .int o1.1), (0, .ref (ad k)), (1, .int p1), (2, .long p2)]) hx hb dX9_comes_5 hl (by decide) rfl (fun ls hl => ?_)
  refine lv_iload hx hb dX9_comes_7 (lv_at hl 0 rfl) ?_
  refine lv_if_eq (tgt := 15) hx hb dX9_comes_9 (by decide) (fun c2 => ?_) (fun c2 => ?_)
  · replace h := q_t h c2
    refine lv_aload_n hx hb dX9_comes_15 rfl (lv_at hl 1 rfl) ?_
    refine lv_iload_n hx hb dX9_comes_16 rfl (lv_at hl 2 rfl) ?_
    refine lv_lload_n hx hb dX9_comes_17 rfl (lv_at hl 3 rfl) ?_
    refine lv_aload_n hx hb dX9_comes_18 rfl (lv_at hl 1 rfl) ?_
    obtain ⟨o3, hco3, h⟩ := q_bind h
    refine q_calll hw (va_runV (As := []) (rest := [.long p2, .int p1, .ref (ad k)]) C0 (kX9_block hk hco3 _) (cwV 0 hts gX9_comes_X9_block rfl rfl rfl eX9_block ⟨(Nat.le_of_ble_eq_true rfl), (Nat.le_of_ble_eq_true rfl)⟩) ⟨q_blind, q_recv hw (mN_0 hk) (mE_0 hk) rfl, q_pre hw⟩ rfl rfl hl.1 rfl (lv_room (Nat.le_of_ble_eq_true rfl)) dX9_comes_19 ⟨Nat.zero_le _, Nat.zero_le _⟩) (fun H locs hw => ?_)
    refine lv_land hx hb dX9_comes_22 ?_
    refine lv_aload_n hx hb dX9_comes_23 rfl (lv_at hl 1 rfl) ?_
    refine gt_X9_12 C0 hw hk iX9_comes_X9 (by decide +kernel) dX9_comes_24 ?_
    obtain ⟨o4, hco4, h⟩ := q_bind h
    refine q_calli hw (va_runV (As := [.int p1, .long (p2 &&& o3.1), .long (o3.2.2 k 12)]) (rest := []) C0 (kX9_comesBy hk hco4 _) (cwV 3 hts gX9_comes_X9_comesBy rfl rfl rfl eX9_comesBy ⟨(Nat.le_of_ble_eq_true rfl), (Nat.le_of_ble_eq_true rfl)⟩) ⟨q_blind, q_recv hw (mN_0 hk) (mE_0 hk) rfl, q_pre hw⟩ rfl rfl hl.1 rfl (lv_room (Nat.le_of_ble_eq_true rfl)) dX9_comes_27 ⟨Nat.zero_le _, Nat.zero_le _⟩) (fun H locs hw => ?_)
    refine lv_if_eq (tgt := 37) hx hb dX9_comes_30 (by decide) (fun c5 => ?_) (fun c5 => ?_)
    · replace h := q_t h c5
      refine lv_iconst (v := (0 : Int32)) hx hb dX9_comes_37 (by decide) ?_
      exact q_iret h C0 hr hlk hw dX9_comes_38
    · replace h := q_f h c5
      refine lv_iconst (v := (1 : Int32)) hx hb dX9_comes_33 (by decide) ?_
      refine lv_goto (tgt := 38) hx hb dX9_comes_34 (by decide) ?_
      exact q_iret h C0 hr hlk hw dX9_comes_38
  · replace h := q_f h c2
    refine lv_iload hx hb dX9_comes_12 (lv_at hl 0 rfl) ?_
    exact q_iret h C0 hr hlk hw dX9_comes_14
-- X9_helps helps(I)I
set_option maxHeartbeats 4000000 in
set_option maxRecDepth 100000 in
theorem kX9_helps {k : Nat} {p1 : Int32} (hk : mB N k) {σ : q_M} {out : Int32 × q_M} (h : fX9_helps k p1 σ = some out) : q_Mi l (gM D cI cJ cR ad adK adV N) yX9_helps wsX9_helps { frames := 5, cells := 0, slots := 0, locals := 129 } [.ref (ad k), .int p1] σ out := by
  refine q_Mi_of (cc := cX9_helps) (maxL := 3) (ret := (some .int)) (by decide) rfl (Nat.le_of_ble_eq_true rfl) ?_
  intro p e s m below meth c ls C0 hr hlk hl hw
  obtain ⟨hx, hb, hml, hown, hts⟩ := id C0
  replace hl : lv_has ls 3 [(0, .ref (ad k)), (1, .int p1)] := hl
  unfold fX9_helps at h
  refine lv_aload_n hx hb dX9_helps_0 rfl (lv_at hl 0 rfl) ?_
  refine lv_iload_n hx hb dX9_helps_1 rfl (lv_at hl 1 rfl) ?_
  obtain ⟨o1, hco1, h⟩ := q_bind h
  refine q_calli hw (va_runV (As := [.int p1]) (rest := []) C0 (kX9_noMove hk hco1 _) (cwV 1 hts gX9_helps_X9_noMove rfl rfl rfl eX9_noMove ⟨(Nat.le_of_ble_eq_true rfl), (Nat.le_of_ble_eq_true rfl)⟩) ⟨q_blind, q_recv hw (mN_0 hk) (mE_0 hk) rfl, q_pre hw⟩ rfl rfl hl.1 rfl (lv_room (Nat.le_of_ble_eq_true rfl)) dX9_helps_2 ⟨Nat.zero_le _, Nat.zero_le _⟩) (fun H locs hw => ?_)
  refine lv_istore_n (lv' := [(2, .int o1.1), (0, .ref (ad k)), (1, .int p1)]) hx hb dX9_helps_5 rfl hl (by decide) rfl (fun ls hl => ?_)
  refine lv_iload_n hx hb dX9_helps_6 rfl (lv_at hl 0 rfl) ?_
  refine lv_if_eq (tgt := 14) hx hb dX9_helps_7 (by decide) (fun c2 => ?_) (fun c2 => ?_)
  · replace h := q_t h c2
    refine lv_aload_n hx hb dX9_helps_14 rfl (lv_at hl 1 rfl) ?_
    refine lv_iload_n hx hb dX9_helps_15 rfl (lv_at hl 2 rfl) ?_
    refine lv_aload_n hx hb dX9_helps_16 rfl (lv_at hl 1 rfl) ?_
    obtain ⟨o3, hco3, h⟩ := q_bind h
    refine q_calll hw (va_runV (As := []) (rest := [.int p1, .ref (ad k)]) C0 (kX9_never hk hco3 _) (cwV 0 hts gX9_helps_X9_never rfl rfl rfl eX9_never ⟨(Nat.le_of_ble_eq_true rfl), (Nat.le_of_ble_eq_true rfl)⟩) ⟨q_blind, q_recv hw (mN_0 hk) (mE_0 hk) rfl, q_pre hw⟩ rfl rfl hl.1 rfl (lv_room (Nat.le_of_ble_eq_true rfl)) dX9_helps_17 ⟨Nat.zero_le _, Nat.zero_le _⟩) (fun H locs hw => ?_)
    obtain ⟨o4, hco4, h⟩ := q_bind h
    refine q_calli hw (va_runV (As := [.int p1, .long o3.1]) (rest := []) C0 (kX9_thatCome hk hco4 _) (cwV 2 hts gX9_helps_X9_thatCome rfl rfl rfl eX9_thatCome ⟨(Nat.le_of_ble_eq_true rfl), (Nat.le_of_ble_eq_true rfl)⟩) ⟨q_blind, q_recv hw (mN_0 hk) (mE_0 hk) rfl, q_pre hw⟩ rfl rfl hl.1 rfl (lv_room (Nat.le_of_ble_eq_true rfl)) dX9_helps_20 ⟨Nat.zero_le _, Nat.zero_le _⟩) (fun H locs hw => ?_)
    exact q_iret h C0 hr hlk hw dX9_helps_23
  · replace h := q_f h c2
    refine lv_iload_n hx hb dX9_helps_10 rfl (lv_at hl 0 rfl) ?_
    refine lv_goto (tgt := 23) hx hb dX9_helps_11 (by decide) ?_
    exact q_iret h C0 hr hlk hw dX9_helps_23
-- X9_findWrong findWrong()I
theorem iX9_findWrong_X9 : ∀ w ∈ wsX90, w ∈ wsX9_findWrong := by decide +kernel
set_option maxHeartbeats 4000000 in
set_option maxRecDepth 100000 in
theorem tX9_findWrong_c184 {k : Nat} (hk : mB N k) (C0 : CallFix p m c cX9_findWrong 6 s args wsX9_findWrong RX9) (hr : meth.sig.returnType = (some .int)) (hlk : meth.locks = false) {out : Int32 × q_M}  : ∀ n : Nat, ∀ (v1 : Int64) (v3 : Int32) (σ : q_M) (H : Heap) (locs : List Loc) (ls : Array Slot), q_H (gM D cI cJ cR ad adK adV N) (q_A (gM D cI cJ cR ad adK adV N) s.heap.size) s σ H locs → lv_has ls 6 [(0, .ref (ad k)), (1, .long v1), (3, .int v3)] → fX9_findWrong_c184 k n v1 v3 σ = some out → W p l e { frames := 4, cells := 0, slots := 0, locals := 102 } s m args below meth c H locs 0 0 (MQ below (q_Ri (gM D cI cJ cR ad adK adV N) (q_A (gM D cI cJ cR ad adK adV N) s.heap.size) out) args s 0 0 (q_A (gM D cI cJ cR ad adK adV N) s.heap.size)) (F0 m 184 ls []) := by
  obtain ⟨hx, hb, hml, hown, hts⟩ := id C0
  intro n
  induction n with
  | zero =>
    intro v1 v3 σ H locs ls  hw hl h
    cases (show (none : Option (Int32 × q_M)) = some out from h)
  | succ n hrec184 =>
    intro v1 v3 σ H locs ls  hw hl h
    replace h : fX9_findWrong_c184b k (fX9_findWrong_c184 k n) v1 v3 σ = some out := h
    unfold fX9_findWrong_c184b at h
    refine lv_iload_n hx hb dX9_findWrong_184 rfl (lv_at hl 2 rfl) ?_
    refine lv_aload_n hx hb dX9_findWrong_185 rfl (lv_at hl 0 rfl) ?_
    obtain ⟨o1, hco1, h⟩ := q_bind h
    refine q_calli hw (va_runV (As := []) (rest := [.int v3]) C0 (kX9_many hk hco1 _) (cwV 0 hts gX9_findWrong_X9_many rfl rfl rfl eX9_many ⟨(Nat.le_of_ble_eq_true rfl), (Nat.le_of_ble_eq_true rfl)⟩) ⟨q_blind, q_recv hw (mN_0 hk) (mE_0 hk) rfl, q_pre hw⟩ rfl rfl hl.1 rfl (lv_room (Nat.le_of_ble_eq_true rfl)) dX9_findWrong_186 ⟨Nat.zero_le _, Nat.zero_le _⟩) (fun H locs hw => ?_)
    refine lv_icmp_ge (tgt := 220) hx hb dX9_findWrong_189 (by decide) (fun c2 => ?_) (fun c2 => ?_)
    · replace h := q_t h c2
      refine lv_aload_n hx hb dX9_findWrong_220 rfl (lv_at hl 0 rfl) ?_
      refine lv_iconst (v := (-1 : Int32)) hx hb dX9_findWrong_221 (by decide) ?_
      refine pt_X9_28 C0 hw hk iX9_findWrong_X9 (by decide +kernel) dX9_findWrong_222 (fun σ3 H locs e_σ3 hw => ?_)
      replace h := q_let_at e_σ3 h
      refine lv_iconst (v := (0 : Int32)) hx hb dX9_findWrong_225 (by decide) ?_
      exact q_iret h C0 hr hlk hw dX9_findWrong_226
    · replace h := q_f h c2
      refine lv_aload_n hx hb dX9_findWrong_192 rfl (lv_at hl 0 rfl) ?_
      refine gt_X9_15 C0 hw hk iX9_findWrong_X9 (by decide +kernel) dX9_findWrong_193 ?_
      refine lv_if_ne (tgt := 220) hx hb dX9_findWrong_196 (by decide) (fun c4 => ?_) (fun c4 => ?_)
      · replace h := q_f h c4
        refine lv_aload_n hx hb dX9_findWrong_220 rfl (lv_at hl 0 rfl) ?_
        refine lv_iconst (v := (-1 : Int32)) hx hb dX9_findWrong_221 (by decide) ?_
        refine pt_X9_28 C0 hw hk iX9_findWrong_X9 (by decide +kernel) dX9_findWrong_222 (fun σ5 H locs e_σ5 hw => ?_)
        replace h := q_let_at e_σ5 h
        refine lv_iconst (v := (0 : Int32)) hx hb dX9_findWrong_225 (by decide) ?_
        exact q_iret h C0 hr hlk hw dX9_findWrong_226
      · replace h := q_t h c4
        refine lv_lload_n hx hb dX9_findWrong_199 rfl (lv_at hl 1 rfl) ?_
        refine lv_iload_n hx hb dX9_findWrong_200 rfl (lv_at hl 2 rfl) ?_
        obtain ⟨o6, hco6, h⟩ := q_bind h
        refine q_calli hw (va_runS (As := [.long v1, .int v3]) (rest := []) C0 (kX9_has hco6 _) (va_cwS 2 hts gX9_findWrong_X9_has rfl rfl rfl eX9_has ⟨(Nat.le_of_ble_eq_true rfl), (Nat.le_of_ble_eq_true rfl)⟩) ⟨q_blind, q_pre hw⟩ rfl rfl hl.1 rfl (lv_room (Nat.le_of_ble_eq_true rfl)) dX9_findWrong_201 ⟨Nat.zero_le _, Nat.zero_le _⟩) (fun H locs hw => ?_)
        refine lv_if_eq (tgt := 214) hx hb dX9_findWrong_204 (by decide) (fun c7 => ?_) (fun c7 => ?_)
        · replace h := q_t h c7
          refine lv_iinc (v := (v3 + (1 : Int32))) (lv' := [(3, .int (v3 + (1 : Int32))), (0, .ref (ad k)), (1, .long v1)]) hx hb dX9_findWrong_214 hl (k := 2) rfl rfl (by decide) rfl (fun ls hl => ?_)
          refine lv_goto (tgt := 184) hx hb dX9_findWrong_217 (by decide) ?_
          exact hrec184 v1 (v3 + (1 : Int32)) o6.2 _ _ _ hw (lv_sub hl [1, 2, 0] rfl) h
        · replace h := q_f h c7
          refine lv_aload_n hx hb dX9_findWrong_207 rfl (lv_at hl 0 rfl) ?_
          refine lv_iload_n hx hb dX9_findWrong_208 rfl (lv_at hl 2 rfl) ?_
          refine pt_X9_28 C0 hw hk iX9_findWrong_X9 (by decide +kernel) dX9_findWrong_209 (fun σ8 H locs e_σ8 hw => ?_)
          replace h := q_let_at e_σ8 h
          refine lv_iconst (v := (5 : Int32)) hx hb dX9_findWrong_212 (by decide) ?_
          exact q_iret h C0 hr hlk hw dX9_findWrong_213
set_option maxHeartbeats 4000000 in
set_option maxRecDepth 100000 in
theorem tX9_findWrong_c130 {k : Nat} {rec2 : Int32 → q_M → Option (Int32 × q_M)} {rec12 : Int32 → Int64 → Int32 → q_M → Option (Int32 × q_M)} (hk : mB N k) (C0 : CallFix p m c cX9_findWrong 6 s args wsX9_findWrong RX9) (hr : meth.sig.returnType = (some .int)) (hlk : meth.locks = false) {out : Int32 × q_M} (hrec2 : ∀ (v1 : Int32) (σ : q_M) (H : Heap) (locs : List Loc) (ls : Array Slot), q_H (gM D cI cJ cR ad adK adV N) (q_A (gM D cI cJ cR ad adK adV N) s.heap.size) s σ H locs → lv_has ls 6 [(0, .ref (ad k)), (1, .int v1)] → rec2 v1 σ = some out → W p l e { frames := 4, cells := 0, slots := 0, locals := 102 } s m args below meth c H locs 0 0 (MQ below (q_Ri (gM D cI cJ cR ad adK adV N) (q_A (gM D cI cJ cR ad adK adV N) s.heap.size) out) args s 0 0 (q_A (gM D cI cJ cR ad adK adV N) s.heap.size)) (F0 m 2 ls [])) (hrec12 : ∀ (v1 : Int32) (v2 : Int64) (v4 : Int32) (σ : q_M) (H : Heap) (locs : List Loc) (ls : Array Slot), q_H (gM D cI cJ cR ad adK adV N) (q_A (gM D cI cJ cR ad adK adV N) s.heap.size) s σ H locs → lv_has ls 6 [(0, .ref (ad k)), (1, .int v1), (2, .long v2), (4, .int v4)] → rec12 v1 v2 v4 σ = some out → W p l e { frames := 4, cells := 0, slots := 0, locals := 102 } s m args below meth c H locs 0 0 (MQ below (q_Ri (gM D cI cJ cR ad adK adV N) (q_A (gM D cI cJ cR ad adK adV N) s.heap.size) out) args s 0 0 (q_A (gM D cI cJ cR ad adK adV N) s.heap.size)) (F0 m 12 ls [])) : ∀ (v1 : Int32) (v2 : Int64) (v4 : Int32) (s0 : Int32) (s1 : Int32) (σ : q_M) (H : Heap) (locs : List Loc) (ls : Array Slot), q_H (gM D cI cJ cR ad adK adV N) (q_A (gM D cI cJ cR ad adK adV N) s.heap.size) s σ H locs → lv_has ls 6 [(0, .ref (ad k)), (1, .int v1), (2, .long v2), (4, .int v4)] → fX9_findWrong_c130 k rec2 rec12 v1 v2 v4 s0 s1 σ = some out → W p l e { frames := 4, cells := 0, slots := 0, locals := 102 } s m args below meth c H locs 0 0 (MQ below (q_Ri (gM D cI cJ cR ad adK adV N) (q_A (gM D cI cJ cR ad adK adV N) s.heap.size) out) args s 0 0 (q_A (gM D cI cJ cR ad adK adV N) s.heap.size)) (F0 m 130 ls [.int s0, .int s1]) := by
  obtain ⟨hx, hb, hml, hown, hts⟩ := id C0
  intro v1 v2 v4 s0 s1 σ H locs ls  hw hl h
  unfold fX9_findWrong_c130 at h
  refine lv_ior hx hb dX9_findWrong_130 ?_
  refine lv_istore (lv' := [(5, .int (s1 ||| s0)), (0, .ref (ad k)), (1, .int v1), (2, .long v2), (4, .int v4)]) hx hb dX9_findWrong_131 hl (by decide) rfl (fun ls hl => ?_)
  refine lv_iload hx hb dX9_findWrong_133 (lv_at hl 0 rfl) ?_
  refine lv_if_eq (tgt := 146) hx hb dX9_findWrong_135 (by decide) (fun c1 => ?_) (fun c1 => ?_)
  · replace h := q_t h c1
    refine lv_lload_n hx hb dX9_findWrong_146 rfl (lv_at hl 3 rfl) ?_
    refine lv_aload_n hx hb dX9_findWrong_147 rfl (lv_at hl 1 rfl) ?_
    refine gt_X9_14 C0 hw hk iX9_findWrong_X9 (by decide +kernel) dX9_findWrong_148 ?_
    refine lv_iload hx hb dX9_findWrong_151 (lv_at hl 4 rfl) ?_
    obtain ⟨b2, h⟩ := q_if h
    refine q_lald (t0 := 1) C0 hw (mN_11 hk) (mE_11 hk) rfl b2 dX9_findWrong_153 ?_
    refine lv_lor hx hb dX9_findWrong_154 ?_
    refine lv_topl (fun x3 e_x3 => ?_)
    replace h := q_let_at e_x3 h
    refine lv_lstore_n (lv' := [(2, .long x3), (5, .int (s1 ||| s0)), (0, .ref (ad k)), (1, .int v1), (4, .int v4)]) hx hb dX9_findWrong_155 rfl hl (by decide) rfl (fun ls hl => ?_)
    refine lv_iinc (v := (v4 + (1 : Int32))) (lv' := [(4, .int (v4 + (1 : Int32))), (2, .long x3), (5, .int (s1 ||| s0)), (0, .ref (ad k)), (1, .int v1)]) hx hb dX9_findWrong_156 hl (k := 4) rfl rfl (by decide) rfl (fun ls hl => ?_)
    refine lv_goto (tgt := 12) hx hb dX9_findWrong_159 (by decide) ?_
    exact hrec12 v1 x3 (v4 + (1 : Int32)) σ _ _ _ hw (lv_sub hl [3, 4, 1, 0] rfl) h
  · replace h := q_f h c1
    refine lv_aload_n hx hb dX9_findWrong_138 rfl (lv_at hl 1 rfl) ?_
    refine lv_iload hx hb dX9_findWrong_139 (lv_at hl 4 rfl) ?_
    refine pt_X9_28 C0 hw hk iX9_findWrong_X9 (by decide +kernel) dX9_findWrong_141 (fun σ4 H locs e_σ4 hw => ?_)
    replace h := q_let_at e_σ4 h
    refine lv_iload_n hx hb dX9_findWrong_144 rfl (lv_at hl 2 rfl) ?_
    exact q_iret h C0 hr hlk hw dX9_findWrong_145
set_option maxHeartbeats 4000000 in
set_option maxRecDepth 100000 in
theorem tX9_findWrong_c103 {k : Nat} {rec2 : Int32 → q_M → Option (Int32 × q_M)} {rec12 : Int32 → Int64 → Int32 → q_M → Option (Int32 × q_M)} (hk : mB N k) (C0 : CallFix p m c cX9_findWrong 6 s args wsX9_findWrong RX9) (hr : meth.sig.returnType = (some .int)) (hlk : meth.locks = false) {out : Int32 × q_M} (hrec2 : ∀ (v1 : Int32) (σ : q_M) (H : Heap) (locs : List Loc) (ls : Array Slot), q_H (gM D cI cJ cR ad adK adV N) (q_A (gM D cI cJ cR ad adK adV N) s.heap.size) s σ H locs → lv_has ls 6 [(0, .ref (ad k)), (1, .int v1)] → rec2 v1 σ = some out → W p l e { frames := 4, cells := 0, slots := 0, locals := 102 } s m args below meth c H locs 0 0 (MQ below (q_Ri (gM D cI cJ cR ad adK adV N) (q_A (gM D cI cJ cR ad adK adV N) s.heap.size) out) args s 0 0 (q_A (gM D cI cJ cR ad adK adV N) s.heap.size)) (F0 m 2 ls [])) (hrec12 : ∀ (v1 : Int32) (v2 : Int64) (v4 : Int32) (σ : q_M) (H : Heap) (locs : List Loc) (ls : Array Slot), q_H (gM D cI cJ cR ad adK adV N) (q_A (gM D cI cJ cR ad adK adV N) s.heap.size) s σ H locs → lv_has ls 6 [(0, .ref (ad k)), (1, .int v1), (2, .long v2), (4, .int v4)] → rec12 v1 v2 v4 σ = some out → W p l e { frames := 4, cells := 0, slots := 0, locals := 102 } s m args below meth c H locs 0 0 (MQ below (q_Ri (gM D cI cJ cR ad adK adV N) (q_A (gM D cI cJ cR ad adK adV N) s.heap.size) out) args s 0 0 (q_A (gM D cI cJ cR ad adK adV N) s.heap.size)) (F0 m 12 ls [])) : ∀ (v1 : Int32) (v2 : Int64) (v4 : Int32) (s0 : Int32) (σ : q_M) (H : Heap) (locs : List Loc) (ls : Array Slot), q_H (gM D cI cJ cR ad adK adV N) (q_A (gM D cI cJ cR ad adK adV N) s.heap.size) s σ H locs → lv_has ls 6 [(0, .ref (ad k)), (1, .int v1), (2, .long v2), (4, .int v4)] → fX9_findWrong_c103 k rec2 rec12 v1 v2 v4 s0 σ = some out → W p l e { frames := 4, cells := 0, slots := 0, locals := 102 } s m args below meth c H locs 0 0 (MQ below (q_Ri (gM D cI cJ cR ad adK adV N) (q_A (gM D cI cJ cR ad adK adV N) s.heap.size) out) args s 0 0 (q_A (gM D cI cJ cR ad adK adV N) s.heap.size)) (F0 m 103 ls [.int s0]) := by
  obtain ⟨hx, hb, hml, hown, hts⟩ := id C0
  intro v1 v2 v4 s0 σ H locs ls  hw hl h
  unfold fX9_findWrong_c103 at h
  refine lv_iload_n hx hb dX9_findWrong_103 rfl (lv_at hl 1 rfl) ?_
  refine lv_iconst (v := (4 : Int32)) hx hb dX9_findWrong_104 (by decide) ?_
  refine lv_icmp_ne (tgt := 129) hx hb dX9_findWrong_105 (by decide) (fun c1 => ?_) (fun c1 => ?_)
  · replace h := q_f h c1
    refine lv_iconst (v := (0 : Int32)) hx hb dX9_findWrong_129 (by decide) ?_
    exact tX9_findWrong_c130 hk C0 hr hlk hrec2 hrec12 v1 v2 v4 (0 : Int32) s0 σ _ _ _ hw (lv_sub hl [0, 1, 2, 3] rfl) h
  · replace h := q_t h c1
    refine lv_aload_n hx hb dX9_findWrong_108 rfl (lv_at hl 0 rfl) ?_
    refine gt_X9_14 C0 hw hk iX9_findWrong_X9 (by decide +kernel) dX9_findWrong_109 ?_
    refine lv_iload hx hb dX9_findWrong_112 (lv_at hl 3 rfl) ?_
    obtain ⟨b2, h⟩ := q_if h
    refine q_lald (t0 := 1) C0 hw (mN_11 hk) (mE_11 hk) rfl b2 dX9_findWrong_114 ?_
    obtain ⟨o3, hco3, h⟩ := q_bind h
    refine q_calli hw (va_runS (As := [.long (σ.2 (k + 11) v4.toNatClampNeg)]) (rest := [.int s0]) C0 (kX9_bits hco3 _) (va_cwS 1 hts gX9_findWrong_X9_bits rfl rfl rfl eX9_bits ⟨(Nat.le_of_ble_eq_true rfl), (Nat.le_of_ble_eq_true rfl)⟩) ⟨q_blind, q_pre hw⟩ rfl rfl hl.1 rfl (lv_room (Nat.le_of_ble_eq_true rfl)) dX9_findWrong_115 ⟨Nat.zero_le _, Nat.zero_le _⟩) (fun H locs hw => ?_)
    refine lv_aload_n hx hb dX9_findWrong_118 rfl (lv_at hl 0 rfl) ?_
    refine gt_X9_17 C0 hw hk iX9_findWrong_X9 (by decide +kernel) dX9_findWrong_119 ?_
    refine lv_icmp_le (tgt := 129) hx hb dX9_findWrong_122 (by decide) (fun c4 => ?_) (fun c4 => ?_)
    · replace h := q_t h c4
      refine lv_iconst (v := (0 : Int32)) hx hb dX9_findWrong_129 (by decide) ?_
      exact tX9_findWrong_c130 hk C0 hr hlk hrec2 hrec12 v1 v2 v4 (0 : Int32) s0 o3.2 _ _ _ hw (lv_sub hl [0, 1, 2, 3] rfl) h
    · replace h := q_f h c4
      refine lv_iconst (v := (1 : Int32)) hx hb dX9_findWrong_125 (by decide) ?_
      refine lv_goto (tgt := 130) hx hb dX9_findWrong_126 (by decide) ?_
      exact tX9_findWrong_c130 hk C0 hr hlk hrec2 hrec12 v1 v2 v4 (1 : Int32) s0 o3.2 _ _ _ hw (lv_sub hl [0, 1, 2, 3] rfl) h
set_option maxHeartbeats 4000000 in
set_option maxRecDepth 100000 in
theorem tX9_findWrong_c79 {k : Nat} {rec2 : Int32 → q_M → Option (Int32 × q_M)} {rec12 : Int32 → Int64 → Int32 → q_M → Option (Int32 × q_M)} (hk : mB N k) (C0 : CallFix p m c cX9_findWrong 6 s args wsX9_findWrong RX9) (hr : meth.sig.returnType = (some .int)) (hlk : meth.locks = false) {out : Int32 × q_M} (hrec2 : ∀ (v1 : Int32) (σ : q_M) (H : Heap) (locs : List Loc) (ls : Array Slot), q_H (gM D cI cJ cR ad adK adV N) (q_A (gM D cI cJ cR ad adK adV N) s.heap.size) s σ H locs → lv_has ls 6 [(0, .ref (ad k)), (1, .int v1)] → rec2 v1 σ = some out → W p l e { frames := 4, cells := 0, slots := 0, locals := 102 } s m args below meth c H locs 0 0 (MQ below (q_Ri (gM D cI cJ cR ad adK adV N) (q_A (gM D cI cJ cR ad adK adV N) s.heap.size) out) args s 0 0 (q_A (gM D cI cJ cR ad adK adV N) s.heap.size)) (F0 m 2 ls [])) (hrec12 : ∀ (v1 : Int32) (v2 : Int64) (v4 : Int32) (σ : q_M) (H : Heap) (locs : List Loc) (ls : Array Slot), q_H (gM D cI cJ cR ad adK adV N) (q_A (gM D cI cJ cR ad adK adV N) s.heap.size) s σ H locs → lv_has ls 6 [(0, .ref (ad k)), (1, .int v1), (2, .long v2), (4, .int v4)] → rec12 v1 v2 v4 σ = some out → W p l e { frames := 4, cells := 0, slots := 0, locals := 102 } s m args below meth c H locs 0 0 (MQ below (q_Ri (gM D cI cJ cR ad adK adV N) (q_A (gM D cI cJ cR ad adK adV N) s.heap.size) out) args s 0 0 (q_A (gM D cI cJ cR ad adK adV N) s.heap.size)) (F0 m 12 ls [])) : ∀ (v1 : Int32) (v2 : Int64) (v4 : Int32) (s0 : Int32) (σ : q_M) (H : Heap) (locs : List Loc) (ls : Array Slot), q_H (gM D cI cJ cR ad adK adV N) (q_A (gM D cI cJ cR ad adK adV N) s.heap.size) s σ H locs → lv_has ls 6 [(0, .ref (ad k)), (1, .int v1), (2, .long v2), (4, .int v4)] → fX9_findWrong_c79 k rec2 rec12 v1 v2 v4 s0 σ = some out → W p l e { frames := 4, cells := 0, slots := 0, locals := 102 } s m args below meth c H locs 0 0 (MQ below (q_Ri (gM D cI cJ cR ad adK adV N) (q_A (gM D cI cJ cR ad adK adV N) s.heap.size) out) args s 0 0 (q_A (gM D cI cJ cR ad adK adV N) s.heap.size)) (F0 m 79 ls [.int s0]) := by
  obtain ⟨hx, hb, hml, hown, hts⟩ := id C0
  intro v1 v2 v4 s0 σ H locs ls  hw hl h
  unfold fX9_findWrong_c79 at h
  refine lv_istore (lv' := [(5, .int s0), (0, .ref (ad k)), (1, .int v1), (2, .long v2), (4, .int v4)]) hx hb dX9_findWrong_79 hl (by decide) rfl (fun ls hl => ?_)
  refine lv_iload hx hb dX9_findWrong_81 (lv_at hl 0 rfl) ?_
  refine lv_iload_n hx hb dX9_findWrong_83 rfl (lv_at hl 2 rfl) ?_
  refine lv_iconst (v := (3 : Int32)) hx hb dX9_findWrong_84 (by decide) ?_
  refine lv_icmp_ne (tgt := 103) hx hb dX9_findWrong_85 (by decide) (fun c1 => ?_) (fun c1 => ?_)
  · replace h := q_f h c1
    exact tX9_findWrong_c103 hk C0 hr hlk hrec2 hrec12 v1 v2 v4 s0 σ _ _ _ hw (lv_sub hl [1, 2, 3, 4] rfl) h
  · replace h := q_t h c1
    refine lv_aload_n hx hb dX9_findWrong_88 rfl (lv_at hl 1 rfl) ?_
    refine lv_aload_n hx hb dX9_findWrong_89 rfl (lv_at hl 1 rfl) ?_
    refine gt_X9_14 C0 hw hk iX9_findWrong_X9 (by decide +kernel) dX9_findWrong_90 ?_
    refine lv_iload hx hb dX9_findWrong_93 (lv_at hl 4 rfl) ?_
    obtain ⟨b2, h⟩ := q_if h
    refine q_lald (t0 := 1) C0 hw (mN_11 hk) (mE_11 hk) rfl b2 dX9_findWrong_95 ?_
    obtain ⟨o3, hco3, h⟩ := q_bind h
    refine q_calli hw (va_runV (As := [.long (σ.2 (k + 11) v4.toNatClampNeg)]) (rest := [.int s0]) C0 (kX9_partsOf hk hco3 _) (cwV 1 hts gX9_findWrong_X9_partsOf rfl rfl rfl eX9_partsOf ⟨(Nat.le_of_ble_eq_true rfl), (Nat.le_of_ble_eq_true rfl)⟩) ⟨q_blind, q_recv hw (mN_0 hk) (mE_0 hk) rfl, q_pre hw⟩ rfl rfl hl.1 rfl (lv_room (Nat.le_of_ble_eq_true rfl)) dX9_findWrong_96 ⟨Nat.zero_le _, Nat.zero_le _⟩) (fun H locs hw => ?_)
    refine lv_iconst (v := (1 : Int32)) hx hb dX9_findWrong_99 (by decide) ?_
    refine lv_icmp_ne (tgt := 125) hx hb dX9_findWrong_100 (by decide) (fun c4 => ?_) (fun c4 => ?_)
    · replace h := q_f h c4
      refine lv_iconst (v := (1 : Int32)) hx hb dX9_findWrong_125 (by decide) ?_
      refine lv_goto (tgt := 130) hx hb dX9_findWrong_126 (by decide) ?_
      exact tX9_findWrong_c130 hk C0 hr hlk hrec2 hrec12 v1 v2 v4 (1 : Int32) s0 o3.2 _ _ _ hw (lv_sub hl [1, 2, 3, 4] rfl) h
    · replace h := q_t h c4
      exact tX9_findWrong_c103 hk C0 hr hlk hrec2 hrec12 v1 v2 v4 s0 o3.2 _ _ _ hw (lv_sub hl [1, 2, 3, 4] rfl) h
set_option maxHeartbeats 4000000 in
set_option maxRecDepth 100000 in
theorem tX9_findWrong_c55 {k : Nat} {rec2 : Int32 → q_M → Option (Int32 × q_M)} {rec12 : Int32 → Int64 → Int32 → q_M → Option (Int32 × q_M)} (hk : mB N k) (C0 : CallFix p m c cX9_findWrong 6 s args wsX9_findWrong RX9) (hr : meth.sig.returnType = (some .int)) (hlk : meth.locks = false) {out : Int32 × q_M} (hrec2 : ∀ (v1 : Int32) (σ : q_M) (H : Heap) (locs : List Loc) (ls : Array Slot), q_H (gM D cI cJ cR ad adK adV N) (q_A (gM D cI cJ cR ad adK adV N) s.heap.size) s σ H locs → lv_has ls 6 [(0, .ref (ad k)), (1, .int v1)] → rec2 v1 σ = some out → W p l e { frames := 4, cells := 0, slots := 0, locals := 102 } s m args below meth c H locs 0 0 (MQ below (q_Ri (gM D cI cJ cR ad adK adV N) (q_A (gM D cI cJ cR ad adK adV N) s.heap.size) out) args s 0 0 (q_A (gM D cI cJ cR ad adK adV N) s.heap.size)) (F0 m 2 ls [])) (hrec12 : ∀ (v1 : Int32) (v2 : Int64) (v4 : Int32) (σ : q_M) (H : Heap) (locs : List Loc) (ls : Array Slot), q_H (gM D cI cJ cR ad adK adV N) (q_A (gM D cI cJ cR ad adK adV N) s.heap.size) s σ H locs → lv_has ls 6 [(0, .ref (ad k)), (1, .int v1), (2, .long v2), (4, .int v4)] → rec12 v1 v2 v4 σ = some out → W p l e { frames := 4, cells := 0, slots := 0, locals := 102 } s m args below meth c H locs 0 0 (MQ below (q_Ri (gM D cI cJ cR ad adK adV N) (q_A (gM D cI cJ cR ad adK adV N) s.heap.size) out) args s 0 0 (q_A (gM D cI cJ cR ad adK adV N) s.heap.size)) (F0 m 12 ls [])) : ∀ (v1 : Int32) (v2 : Int64) (v4 : Int32) (σ : q_M) (H : Heap) (locs : List Loc) (ls : Array Slot), q_H (gM D cI cJ cR ad adK adV N) (q_A (gM D cI cJ cR ad adK adV N) s.heap.size) s σ H locs → lv_has ls 6 [(0, .ref (ad k)), (1, .int v1), (2, .long v2), (4, .int v4)] → fX9_findWrong_c55 k rec2 rec12 v1 v2 v4 σ = some out → W p l e { frames := 4, cells := 0, slots := 0, locals := 102 } s m args below meth c H locs 0 0 (MQ below (q_Ri (gM D cI cJ cR ad adK adV N) (q_A (gM D cI cJ cR ad adK adV N) s.heap.size) out) args s 0 0 (q_A (gM D cI cJ cR ad adK adV N) s.heap.size)) (F0 m 55 ls []) := by
  obtain ⟨hx, hb, hml, hown, hts⟩ := id C0
  intro v1 v2 v4 σ H locs ls  hw hl h
  unfold fX9_findWrong_c55 at h
  refine lv_iload_n hx hb dX9_findWrong_55 rfl (lv_at hl 1 rfl) ?_
  refine lv_iconst (v := (2 : Int32)) hx hb dX9_findWrong_56 (by decide) ?_
  refine lv_icmp_ne (tgt := 78) hx hb dX9_findWrong_57 (by decide) (fun c1 => ?_) (fun c1 => ?_)
  · replace h := q_f h c1
    refine lv_iconst (v := (0 : Int32)) hx hb dX9_findWrong_78 (by decide) ?_
    exact tX9_findWrong_c79 hk C0 hr hlk hrec2 hrec12 v1 v2 v4 (0 : Int32) σ _ _ _ hw (lv_sub hl [0, 1, 2, 3] rfl) h
  · replace h := q_t h c1
    refine lv_aload_n hx hb dX9_findWrong_60 rfl (lv_at hl 0 rfl) ?_
    refine gt_X9_14 C0 hw hk iX9_findWrong_X9 (by decide +kernel) dX9_findWrong_61 ?_
    refine lv_iload hx hb dX9_findWrong_64 (lv_at hl 3 rfl) ?_
    obtain ⟨b2, h⟩ := q_if h
    refine q_lald (t0 := 1) C0 hw (mN_11 hk) (mE_11 hk) rfl b2 dX9_findWrong_66 ?_
    refine lv_lload_n hx hb dX9_findWrong_67 rfl (lv_at hl 2 rfl) ?_
    refine lv_land hx hb dX9_findWrong_68 ?_
    refine lv_lconst (v := (0 : Int64)) hx hb dX9_findWrong_69 (by decide) ?_
    refine q_lcmp_eq (tgt := 78) C0 dX9_findWrong_70 dX9_findWrong_71 (by decide) (fun c3 => ?_) (fun c3 => ?_)
    · replace h := q_t h c3
      refine lv_iconst (v := (0 : Int32)) hx hb dX9_findWrong_78 (by decide) ?_
      exact tX9_findWrong_c79 hk C0 hr hlk hrec2 hrec12 v1 v2 v4 (0 : Int32) σ _ _ _ hw (lv_sub hl [0, 1, 2, 3] rfl) h
    · replace h := q_f h c3
      refine lv_iconst (v := (1 : Int32)) hx hb dX9_findWrong_74 (by decide) ?_
      refine lv_goto (tgt := 79) hx hb dX9_findWrong_75 (by decide) ?_
      exact tX9_findWrong_c79 hk C0 hr hlk hrec2 hrec12 v1 v2 v4 (1 : Int32) σ _ _ _ hw (lv_sub hl [0, 1, 2, 3] rfl) h
set_option maxHeartbeats 4000000 in
set_option maxRecDepth 100000 in
theorem tX9_findWrong_c12 {k : Nat} {rec2 : Int32 → q_M → Option (Int32 × q_M)} (hk : mB N k) (C0 : CallFix p m c cX9_findWrong 6 s args wsX9_findWrong RX9) (hr : meth.sig.returnType = (some .int)) (hlk : meth.locks = false) {out : Int32 × q_M} (hrec2 : ∀ (v1 : Int32) (σ : q_M) (H : Heap) (locs : List Loc) (ls : Array Slot), q_H (gM D cI cJ cR ad adK adV N) (q_A (gM D cI cJ cR ad adK adV N) s.heap.size) s σ H locs → lv_has ls 6 [(0, .ref (ad k)), (1, .int v1)] → rec2 v1 σ = some out → W p l e { frames := 4, cells := 0, slots := 0, locals := 102 } s m args below meth c H locs 0 0 (MQ below (q_Ri (gM D cI cJ cR ad adK adV N) (q_A (gM D cI cJ cR ad adK adV N) s.heap.size) out) args s 0 0 (q_A (gM D cI cJ cR ad adK adV N) s.heap.size)) (F0 m 2 ls [])) : ∀ n : Nat, ∀ (v1 : Int32) (v2 : Int64) (v4 : Int32) (σ : q_M) (H : Heap) (locs : List Loc) (ls : Array Slot), q_H (gM D cI cJ cR ad adK adV N) (q_A (gM D cI cJ cR ad adK adV N) s.heap.size) s σ H locs → lv_has ls 6 [(0, .ref (ad k)), (1, .int v1), (2, .long v2), (4, .int v4)] → fX9_findWrong_c12 k rec2 n v1 v2 v4 σ = some out → W p l e { frames := 4, cells := 0, slots := 0, locals := 102 } s m args below meth c H locs 0 0 (MQ below (q_Ri (gM D cI cJ cR ad adK adV N) (q_A (gM D cI cJ cR ad adK adV N) s.heap.size) out) args s 0 0 (q_A (gM D cI cJ cR ad adK adV N) s.heap.size)) (F0 m 12 ls []) := by
  obtain ⟨hx, hb, hml, hown, hts⟩ := id C0
  intro n
  induction n with
  | zero =>
    intro v1 v2 v4 σ H locs ls  hw hl h
    cases (show (none : Option (Int32 × q_M)) = some out from h)
  | succ n hrec12 =>
    intro v1 v2 v4 σ H locs ls  hw hl h
    replace h : fX9_findWrong_c12b k rec2 (fX9_findWrong_c12 k rec2 n) v1 v2 v4 σ = some out := h
    unfold fX9_findWrong_c12b at h
    refine lv_iload hx hb dX9_findWrong_12 (lv_at hl 3 rfl) ?_
    refine lv_aload_n hx hb dX9_findWrong_14 rfl (lv_at hl 0 rfl) ?_
    refine gt_X9_13 C0 hw hk iX9_findWrong_X9 (by decide +kernel) dX9_findWrong_15 ?_
    refine lv_icmp_ge (tgt := 162) hx hb dX9_findWrong_18 (by decide) (fun c1 => ?_) (fun c1 => ?_)
    · replace h := q_t h c1
      refine lv_iinc (v := (v1 + (1 : Int32))) (lv' := [(1, .int (v1 + (1 : Int32))), (0, .ref (ad k)), (2, .long v2), (4, .int v4)]) hx hb dX9_findWrong_162 hl (k := 1) rfl rfl (by decide) rfl (fun ls hl => ?_)
      refine lv_goto (tgt := 2) hx hb dX9_findWrong_165 (by decide) ?_
      exact hrec2 (v1 + (1 : Int32)) σ _ _ _ hw (lv_sub hl [1, 0] rfl) h
    · replace h := q_f h c1
      refine lv_aload_n hx hb dX9_findWrong_21 rfl (lv_at hl 0 rfl) ?_
      refine lv_iload hx hb dX9_findWrong_22 (lv_at hl 3 rfl) ?_
      obtain ⟨o2, hco2, h⟩ := q_bind h
      refine q_calli hw (va_runV (As := [.int v4]) (rest := []) C0 (kX9_isOff hk hco2 _) (cwV 1 hts gX9_findWrong_X9_isOff rfl rfl rfl eX9_isOff ⟨(Nat.le_of_ble_eq_true rfl), (Nat.le_of_ble_eq_true rfl)⟩) ⟨q_blind, q_recv hw (mN_0 hk) (mE_0 hk) rfl, q_pre hw⟩ rfl rfl hl.1 rfl (lv_room (Nat.le_of_ble_eq_true rfl)) dX9_findWrong_24 ⟨Nat.zero_le _, Nat.zero_le _⟩) (fun H locs hw => ?_)
      refine lv_if_eq (tgt := 33) hx hb dX9_findWrong_27 (by decide) (fun c3 => ?_) (fun c3 => ?_)
      · replace h := q_t h c3
        refine lv_iload_n hx hb dX9_findWrong_33 rfl (lv_at hl 1 rfl) ?_
        refine lv_iconst (v := (1 : Int32)) hx hb dX9_findWrong_34 (by decide) ?_
        refine lv_icmp_ne (tgt := 55) hx hb dX9_findWrong_35 (by decide) (fun c4 => ?_) (fun c4 => ?_)
        · replace h := q_f h c4
          exact tX9_findWrong_c55 hk C0 hr hlk hrec2 hrec12 v1 v2 v4 o2.2 _ _ _ hw (lv_sub hl [0, 1, 2, 3] rfl) h
        · replace h := q_t h c4
          refine lv_aload_n hx hb dX9_findWrong_38 rfl (lv_at hl 0 rfl) ?_
          refine gt_X9_14 C0 hw hk iX9_findWrong_X9 (by decide +kernel) dX9_findWrong_39 ?_
          refine lv_iload hx hb dX9_findWrong_42 (lv_at hl 3 rfl) ?_
          obtain ⟨b5, h⟩ := q_if h
          refine q_lald (t0 := 1) C0 hw (mN_11 hk) (mE_11 hk) rfl b5 dX9_findWrong_44 ?_
          refine lv_aload_n hx hb dX9_findWrong_45 rfl (lv_at hl 0 rfl) ?_
          refine gt_X9_12 C0 hw hk iX9_findWrong_X9 (by decide +kernel) dX9_findWrong_46 ?_
          refine lv_land hx hb dX9_findWrong_49 ?_
          refine lv_lconst (v := (0 : Int64)) hx hb dX9_findWrong_50 (by decide) ?_
          refine q_lcmp_ne (tgt := 74) C0 dX9_findWrong_51 dX9_findWrong_52 (by decide) (fun c6 => ?_) (fun c6 => ?_)
          · replace h := q_f h c6
            refine lv_iconst (v := (1 : Int32)) hx hb dX9_findWrong_74 (by decide) ?_
            refine lv_goto (tgt := 79) hx hb dX9_findWrong_75 (by decide) ?_
            exact tX9_findWrong_c79 hk C0 hr hlk hrec2 hrec12 v1 v2 v4 (1 : Int32) o2.2 _ _ _ hw (lv_sub hl [0, 1, 2, 3] rfl) h
          · replace h := q_t h c6
            exact tX9_findWrong_c55 hk C0 hr hlk hrec2 hrec12 v1 v2 v4 o2.2 _ _ _ hw (lv_sub hl [0, 1, 2, 3] rfl) h
      · replace h := q_f h c3
        refine lv_goto (tgt := 156) hx hb dX9_findWrong_30 (by decide) ?_
        refine lv_iinc (v := (v4 + (1 : Int32))) (lv' := [(4, .int (v4 + (1 : Int32))), (0, .ref (ad k)), (1, .int v1), (2, .long v2)]) hx hb dX9_findWrong_156 hl (k := 3) rfl rfl (by decide) rfl (fun ls hl => ?_)
        refine lv_goto (tgt := 12) hx hb dX9_findWrong_159 (by decide) ?_
        exact hrec12 v1 v2 (v4 + (1 : Int32)) o2.2 _ _ _ hw (lv_sub hl [1, 2, 3, 0] rfl) h
set_option maxHeartbeats 4000000 in
set_option maxRecDepth 100000 in
theorem tX9_findWrong_c2 {k : Nat} (hk : mB N k) (C0 : CallFix p m c cX9_findWrong 6 s args wsX9_findWrong RX9) (hr : meth.sig.returnType = (some .int)) (hlk : meth.locks = false) {out : Int32 × q_M}  : ∀ n : Nat, ∀ (v1 : Int32) (σ : q_M) (H : Heap) (locs : List Loc) (ls : Array Slot), q_H (gM D cI cJ cR ad adK adV N) (q_A (gM D cI cJ cR ad adK adV N) s.heap.size) s σ H locs → lv_has ls 6 [(0, .ref (ad k)), (1, .int v1)] → fX9_findWrong_c2 k n v1 σ = some out → W p l e { frames := 4, cells := 0, slots := 0, locals := 102 } s m args below meth c H locs 0 0 (MQ below (q_Ri (gM D cI cJ cR ad adK adV N) (q_A (gM D cI cJ cR ad adK adV N) s.heap.size) out) args s 0 0 (q_A (gM D cI cJ cR ad adK adV N) s.heap.size)) (F0 m 2 ls []) := by
  obtain ⟨hx, hb, hml, hown, hts⟩ := id C0
  intro n
  induction n with
  | zero =>
    intro v1 σ H locs ls  hw hl h
    cases (show (none : Option (Int32 × q_M)) = some out from h)
  | succ n hrec2 =>
    intro v1 σ H locs ls  hw hl h
    replace h : fX9_findWrong_c2b k (fX9_findWrong_c2 k n) v1 σ = some out := h
    unfold fX9_findWrong_c2b at h
    refine lv_iload_n hx hb dX9_findWrong_2 rfl (lv_at hl 1 rfl) ?_
    refine lv_iconst (v := (4 : Int32)) hx hb dX9_findWrong_3 (by decide) ?_
    refine lv_icmp_gt (tgt := 168) hx hb dX9_findWrong_4 (by decide) (fun c1 => ?_) (fun c1 => ?_)
    · replace h := q_t h c1
      refine lv_aload_n hx hb dX9_findWrong_168 rfl (lv_at hl 0 rfl) ?_
      obtain ⟨o2, hco2, h⟩ := q_bind h
      refine q_calll hw (va_runV (As := []) (rest := []) C0 (kX9_empty hk hco2 _) (cwV 0 hts gX9_findWrong_X9_empty rfl rfl rfl eX9_empty ⟨(Nat.le_of_ble_eq_true rfl), (Nat.le_of_ble_eq_true rfl)⟩) ⟨q_blind, q_recv hw (mN_0 hk) (mE_0 hk) rfl, q_pre hw⟩ rfl rfl hl.1 rfl (lv_room (Nat.le_of_ble_eq_true rfl)) dX9_findWrong_169 ⟨Nat.zero_le _, Nat.zero_le _⟩) (fun H locs hw => ?_)
      refine lv_aload_n hx hb dX9_findWrong_172 rfl (lv_at hl 0 rfl) ?_
      obtain ⟨o3, hco3, h⟩ := q_bind h
      refine q_calll hw (va_runV (As := []) (rest := [.long o2.1]) C0 (kX9_inPieces hk hco3 _) (cwV 0 hts gX9_findWrong_X9_inPieces rfl rfl rfl eX9_inPieces ⟨(Nat.le_of_ble_eq_true rfl), (Nat.le_of_ble_eq_true rfl)⟩) ⟨q_blind, q_recv hw (mN_0 hk) (mE_0 hk) rfl, q_pre hw⟩ rfl rfl hl.1 rfl (lv_room (Nat.le_of_ble_eq_true rfl)) dX9_findWrong_173 ⟨Nat.zero_le _, Nat.zero_le _⟩) (fun H locs hw => ?_)
      refine lv_ldc2 (v := (-1 : Int64)) hx hb hown (hts (.constantLong RX9 100 (-1)) (by decide +kernel)) dX9_findWrong_176 ?_
      refine lv_lxor hx hb dX9_findWrong_179 ?_
      refine lv_land hx hb dX9_findWrong_180 ?_
      refine lv_topl (fun x4 e_x4 => ?_)
      replace h := q_let_at e_x4 h
      refine lv_lstore_n (lv' := [(1, .long x4), (0, .ref (ad k))]) hx hb dX9_findWrong_181 rfl hl (by decide) rfl (fun ls hl => ?_)
      refine lv_iconst (v := (0 : Int32)) hx hb dX9_findWrong_182 (by decide) ?_
      refine lv_istore_n (lv' := [(3, .int (0 : Int32)), (1, .long x4), (0, .ref (ad k))]) hx hb dX9_findWrong_183 rfl hl (by decide) rfl (fun ls hl => ?_)
      exact tX9_findWrong_c184 hk C0 hr hlk q_FU x4 (0 : Int32) o3.2 _ _ _ hw (lv_sub hl [2, 1, 0] rfl) h
    · replace h := q_f h c1
      refine lv_lconst (v := (0 : Int64)) hx hb dX9_findWrong_7 (by decide) ?_
      refine lv_lstore_n (lv' := [(2, .long (0 : Int64)), (0, .ref (ad k)), (1, .int v1)]) hx hb dX9_findWrong_8 rfl hl (by decide) rfl (fun ls hl => ?_)
      refine lv_iconst (v := (0 : Int32)) hx hb dX9_findWrong_9 (by decide) ?_
      refine lv_istore (lv' := [(4, .int (0 : Int32)), (2, .long (0 : Int64)), (0, .ref (ad k)), (1, .int v1)]) hx hb dX9_findWrong_10 hl (by decide) rfl (fun ls hl => ?_)
      exact tX9_findWrong_c12 hk C0 hr hlk hrec2 q_FU v1 (0 : Int64) (0 : Int32) σ _ _ _ hw (lv_sub hl [2, 3, 1, 0] rfl) h
set_option maxHeartbeats 4000000 in
set_option maxRecDepth 100000 in
theorem kX9_findWrong {k : Nat} (hk : mB N k) {σ : q_M} {out : Int32 × q_M} (h : fX9_findWrong k σ = some out) : q_Mi l (gM D cI cJ cR ad adK adV N) yX9_findWrong wsX9_findWrong { frames := 4, cells := 0, slots := 0, locals := 102 } [.ref (ad k)] σ out := by
  refine q_Mi_of (cc := cX9_findWrong) (maxL := 6) (ret := (some .int)) (by decide) rfl (Nat.le_of_ble_eq_true rfl) ?_
  intro p e s m below meth c ls C0 hr hlk hl hw
  obtain ⟨hx, hb, hml, hown, hts⟩ := id C0
  replace hl : lv_has ls 6 [(0, .ref (ad k))] := hl
  unfold fX9_findWrong at h
  refine lv_iconst (v := (1 : Int32)) hx hb dX9_findWrong_0 (by decide) ?_
  refine lv_istore_n (lv' := [(1, .int (1 : Int32)), (0, .ref (ad k))]) hx hb dX9_findWrong_1 rfl hl (by decide) rfl (fun ls hl => ?_)
  exact tX9_findWrong_c2 hk C0 hr hlk q_FU (1 : Int32) σ _ _ _ hw (lv_sub hl [1, 0] rfl) h
-- X9_wrong wrong(Z)I
theorem iX9_wrong_X9 : ∀ w ∈ wsX90, w ∈ wsX9_wrong := by decide +kernel
theorem eX9_findWrong : yX9_findWrong.cls = RX9 ∧ yX9_findWrong.cls ≠ "java/lang/invoke/MethodHandle" ∧ yX9_findWrong.cls ≠ "java/lang/invoke/VarHandle" ∧ (parseMethodDescriptor yX9_findWrong.desc).map (fun d => d.parameters.length) = some 0 := by decide +kernel
set_option maxHeartbeats 4000000 in
set_option maxRecDepth 100000 in
theorem kX9_wrong {k : Nat} {p1 : Int32} (hk : mB N k) {σ : q_M} {out : Int32 × q_M} (h : fX9_wrong k p1 σ = some out) : q_Mi l (gM D cI cJ cR ad adK adV N) yX9_wrong wsX9_wrong { frames := 5, cells := 0, slots := 0, locals := 127 } [.ref (ad k), .int p1] σ out := by
  refine q_Mi_of (cc := cX9_wrong) (maxL := 3) (ret := (some .int)) (by decide) rfl (Nat.le_of_ble_eq_true rfl) ?_
  intro p e s m below meth c ls C0 hr hlk hl hw
  obtain ⟨hx, hb, hml, hown, hts⟩ := id C0
  replace hl : lv_has ls 3 [(0, .ref (ad k)), (1, .int p1)] := hl
  unfold fX9_wrong at h
  refine lv_aload_n hx hb dX9_wrong_0 rfl (lv_at hl 0 rfl) ?_
  obtain ⟨o1, hco1, h⟩ := q_bind h
  refine q_calli hw (va_runV (As := []) (rest := []) C0 (kX9_findWrong hk hco1 _) (cwV 0 hts gX9_wrong_X9_findWrong rfl rfl rfl eX9_findWrong ⟨(Nat.le_of_ble_eq_true rfl), (Nat.le_of_ble_eq_true rfl)⟩) ⟨q_blind, q_recv hw (mN_0 hk) (mE_0 hk) rfl, q_pre hw⟩ rfl rfl hl.1 rfl (lv_room (Nat.le_of_ble_eq_true rfl)) dX9_wrong_1 ⟨Nat.zero_le _, Nat.zero_le _⟩) (fun H locs hw => ?_)
  refine lv_istore_n (lv' := [(2, .int o1.1), (0, .ref (ad k)), (1, .int p1)]) hx hb dX9_wrong_4 rfl hl (by decide) rfl (fun ls hl => ?_)
  refine lv_iload_n hx hb dX9_wrong_5 rfl (lv_at hl 2 rfl) ?_
  refine lv_if_eq (tgt := 13) hx hb dX9_wrong_6 (by decide) (fun c2 => ?_) (fun c2 => ?_)
  · replace h := q_t h c2
    refine lv_aload_n hx hb dX9_wrong_13 rfl (lv_at hl 1 rfl) ?_
    refine gt_X9_28 C0 hw hk iX9_wrong_X9 (by decide +kernel) dX9_wrong_14 ?_
    exact q_iret h C0 hr hlk hw dX9_wrong_17
  · replace h := q_f h c2
    refine lv_iload_n hx hb dX9_wrong_9 rfl (lv_at hl 0 rfl) ?_
    refine lv_goto (tgt := 17) hx hb dX9_wrong_10 (by decide) ?_
    exact q_iret h C0 hr hlk hw dX9_wrong_17
-- X9_looseBy looseBy(II)I
theorem iX9_looseBy_X9 : ∀ w ∈ wsX90, w ∈ wsX9_looseBy := by decide +kernel
set_option maxHeartbeats 4000000 in
set_option maxRecDepth 100000 in
theorem tX9_looseBy_c55 {k : Nat} {p1 : Int32} {p2 : Int32} (hk : mB N k) (C0 : CallFix p m c cX9_looseBy 6 s args wsX9_looseBy RX9) (hr : meth.sig.returnType = (some .int)) (hlk : meth.locks = false) {out : Int32 × q_M}  : ∀ n : Nat, ∀ (v3 : Int64) (v5 : Int32) (σ : q_M) (H : Heap) (locs : List Loc) (ls : Array Slot), q_H (gM D cI cJ cR ad adK adV N) (q_A (gM D cI cJ cR ad adK adV N) s.heap.size) s σ H locs → lv_has ls 6 [(0, .ref (ad k)), (1, .int p1), (3, .long v3), (5, .int v5)] → fX9_looseBy_c55 k p1 p2 n v3 v5 σ = some out → W p l e { frames := 4, cells := 0, slots := 0, locals := 104 } s m args below meth c H locs 0 0 (MQ below (q_Ri (gM D cI cJ cR ad adK adV N) (q_A (gM D cI cJ cR ad adK adV N) s.heap.size) out) args s 0 0 (q_A (gM D cI cJ cR ad adK adV N) s.heap.size)) (F0 m 55 ls []) := by
  obtain ⟨hx, hb, hml, hown, hts⟩ := id C0
  intro n
  induction n with
  | zero =>
    intro v3 v5 σ H locs ls  hw hl h
    cases (show (none : Option (Int32 × q_M)) = some out from h)
  | succ n hrec55 =>
    intro v3 v5 σ H locs ls  hw hl h
    replace h : fX9_looseBy_c55b k p1 p2 (fX9_looseBy_c55 k p1 p2 n) v3 v5 σ = some out := h
    unfold fX9_looseBy_c55b at h
    refine lv_iload hx hb dX9_looseBy_55 (lv_at hl 3 rfl) ?_
    refine lv_bipush (v := (8 : Int32)) hx hb dX9_looseBy_57 (by decide) ?_
    refine lv_icmp_ge (tgt := 98) hx hb dX9_looseBy_59 (by decide) (fun c1 => ?_) (fun c1 => ?_)
    · replace h := q_t h c1
      refine lv_iconst (v := (-1 : Int32)) hx hb dX9_looseBy_98 (by decide) ?_
      exact q_iret h C0 hr hlk hw dX9_looseBy_99
    · replace h := q_f h c1
      refine lv_aload_n hx hb dX9_looseBy_62 rfl (lv_at hl 0 rfl) ?_
      refine gt_X9_0 C0 hw hk iX9_looseBy_X9 (by decide +kernel) dX9_looseBy_63 ?_
      refine lv_iload hx hb dX9_looseBy_66 (lv_at hl 3 rfl) ?_
      obtain ⟨b2, h⟩ := q_if h
      refine q_iald (t0 := 0) C0 hw (mN_1 hk) (mE_1 hk) rfl b2 dX9_looseBy_68 ?_
      refine lv_iconst (v := (2 : Int32)) hx hb dX9_looseBy_69 (by decide) ?_
      refine lv_icmp_ne (tgt := 92) hx hb dX9_looseBy_70 (by decide) (fun c3 => ?_) (fun c3 => ?_)
      · replace h := q_f h c3
        refine lv_iinc (v := (v5 + (1 : Int32))) (lv' := [(5, .int (v5 + (1 : Int32))), (0, .ref (ad k)), (1, .int p1), (3, .long v3)]) hx hb dX9_looseBy_92 hl (k := 3) rfl rfl (by decide) rfl (fun ls hl => ?_)
        refine lv_goto (tgt := 55) hx hb dX9_looseBy_95 (by decide) ?_
        exact hrec55 v3 (v5 + (1 : Int32)) σ _ _ _ hw (lv_sub hl [1, 2, 3, 0] rfl) h
      · replace h := q_t h c3
        refine lv_aload_n hx hb dX9_looseBy_73 rfl (lv_at hl 0 rfl) ?_
        refine lv_iload hx hb dX9_looseBy_74 (lv_at hl 3 rfl) ?_
        refine lv_aload_n hx hb dX9_looseBy_76 rfl (lv_at hl 0 rfl) ?_
        refine gt_X9_14 C0 hw hk iX9_looseBy_X9 (by decide +kernel) dX9_looseBy_77 ?_
        refine lv_iload_n hx hb dX9_looseBy_80 rfl (lv_at hl 1 rfl) ?_
        obtain ⟨b4, h⟩ := q_if h
        refine q_lald (t0 := 1) C0 hw (mN_11 hk) (mE_11 hk) rfl b4 dX9_looseBy_81 ?_
        refine lv_lload_n hx hb dX9_looseBy_82 rfl (lv_at hl 2 rfl) ?_
        obtain ⟨o5, hco5, h⟩ := q_bind h
        refine q_calli hw (va_runV (As := [.int v5, .long (σ.2 (k + 11) p1.toNatClampNeg), .long v3]) (rest := []) C0 (kX9_comesBy hk hco5 _) (cwV 3 hts gX9_looseBy_X9_comesBy rfl rfl rfl eX9_comesBy ⟨(Nat.le_of_ble_eq_true rfl), (Nat.le_of_ble_eq_true rfl)⟩) ⟨q_blind, q_recv hw (mN_0 hk) (mE_0 hk) rfl, q_pre hw⟩ rfl rfl hl.1 rfl (lv_room (Nat.le_of_ble_eq_true rfl)) dX9_looseBy_83 ⟨Nat.zero_le _, Nat.zero_le _⟩) (fun H locs hw => ?_)
        refine lv_if_eq (tgt := 92) hx hb dX9_looseBy_86 (by decide) (fun c6 => ?_) (fun c6 => ?_)
        · replace h := q_t h c6
          refine lv_iinc (v := (v5 + (1 : Int32))) (lv' := [(5, .int (v5 + (1 : Int32))), (0, .ref (ad k)), (1, .int p1), (3, .long v3)]) hx hb dX9_looseBy_92 hl (k := 3) rfl rfl (by decide) rfl (fun ls hl => ?_)
          refine lv_goto (tgt := 55) hx hb dX9_looseBy_95 (by decide) ?_
          exact hrec55 v3 (v5 + (1 : Int32)) o5.2 _ _ _ hw (lv_sub hl [1, 2, 3, 0] rfl) h
        · replace h := q_f h c6
          refine lv_iload hx hb dX9_looseBy_89 (lv_at hl 3 rfl) ?_
          exact q_iret h C0 hr hlk hw dX9_looseBy_91
set_option maxHeartbeats 4000000 in
set_option maxRecDepth 100000 in
theorem tX9_looseBy_c8 {k : Nat} {p1 : Int32} {p2 : Int32} (hk : mB N k) (C0 : CallFix p m c cX9_looseBy 6 s args wsX9_looseBy RX9) (hr : meth.sig.returnType = (some .int)) (hlk : meth.locks = false) {out : Int32 × q_M}  : ∀ n : Nat, ∀ (v3 : Int64) (v5 : Int32) (σ : q_M) (H : Heap) (locs : List Loc) (ls : Array Slot), q_H (gM D cI cJ cR ad adK adV N) (q_A (gM D cI cJ cR ad adK adV N) s.heap.size) s σ H locs → lv_has ls 6 [(0, .ref (ad k)), (1, .int p1), (2, .int p2), (3, .long v3), (5, .int v5)] → fX9_looseBy_c8 k p1 p2 n v3 v5 σ = some out → W p l e { frames := 4, cells := 0, slots := 0, locals := 104 } s m args below meth c H locs 0 0 (MQ below (q_Ri (gM D cI cJ cR ad adK adV N) (q_A (gM D cI cJ cR ad adK adV N) s.heap.size) out) args s 0 0 (q_A (gM D cI cJ cR ad adK adV N) s.heap.size)) (F0 m 8 ls []) := by
  obtain ⟨hx, hb, hml, hown, hts⟩ := id C0
  intro n
  induction n with
  | zero =>
    intro v3 v5 σ H locs ls  hw hl h
    cases (show (none : Option (Int32 × q_M)) = some out from h)
  | succ n hrec8 =>
    intro v3 v5 σ H locs ls  hw hl h
    replace h : fX9_looseBy_c8b k p1 p2 (fX9_looseBy_c8 k p1 p2 n) v3 v5 σ = some out := h
    unfold fX9_looseBy_c8b at h
    refine lv_iload hx hb dX9_looseBy_8 (lv_at hl 4 rfl) ?_
    refine lv_aload_n hx hb dX9_looseBy_10 rfl (lv_at hl 0 rfl) ?_
    refine gt_X9_13 C0 hw hk iX9_looseBy_X9 (by decide +kernel) dX9_looseBy_11 ?_
    refine lv_icmp_ge (tgt := 52) hx hb dX9_looseBy_14 (by decide) (fun c1 => ?_) (fun c1 => ?_)
    · replace h := q_t h c1
      refine lv_iconst (v := (0 : Int32)) hx hb dX9_looseBy_52 (by decide) ?_
      refine lv_istore (lv' := [(5, .int (0 : Int32)), (0, .ref (ad k)), (1, .int p1), (2, .int p2), (3, .long v3)]) hx hb dX9_looseBy_53 hl (by decide) rfl (fun ls hl => ?_)
      exact tX9_looseBy_c55 hk C0 hr hlk q_FU v3 (0 : Int32) σ _ _ _ hw (lv_sub hl [1, 2, 4, 0] rfl) h
    · replace h := q_f h c1
      refine lv_lload_n hx hb dX9_looseBy_17 rfl (lv_at hl 3 rfl) ?_
      refine lv_iload hx hb dX9_looseBy_18 (lv_at hl 4 rfl) ?_
      refine lv_iload_n hx hb dX9_looseBy_20 rfl (lv_at hl 1 rfl) ?_
      refine lv_icmp_eq (tgt := 43) hx hb dX9_looseBy_21 (by decide) (fun c2 => ?_) (fun c2 => ?_)
      · replace h := q_t h c2
        refine lv_lconst (v := (0 : Int64)) hx hb dX9_looseBy_43 (by decide) ?_
        refine lv_lor hx hb dX9_looseBy_44 ?_
        refine lv_lstore_n (lv' := [(3, .long (v3 ||| (0 : Int64))), (0, .ref (ad k)), (1, .int p1), (2, .int p2), (5, .int v5)]) hx hb dX9_looseBy_45 rfl hl (by decide) rfl (fun ls hl => ?_)
        refine lv_iinc (v := (v5 + (1 : Int32))) (lv' := [(5, .int (v5 + (1 : Int32))), (3, .long (v3 ||| (0 : Int64))), (0, .ref (ad k)), (1, .int p1), (2, .int p2)]) hx hb dX9_looseBy_46 hl (k := 4) rfl rfl (by decide) rfl (fun ls hl => ?_)
        refine lv_goto (tgt := 8) hx hb dX9_looseBy_49 (by decide) ?_
        exact hrec8 (v3 ||| (0 : Int64)) (v5 + (1 : Int32)) σ _ _ _ hw (lv_sub hl [2, 3, 4, 1, 0] rfl) h
      · replace h := q_f h c2
        refine lv_iload_n hx hb dX9_looseBy_24 rfl (lv_at hl 2 rfl) ?_
        refine lv_iload hx hb dX9_looseBy_25 (lv_at hl 4 rfl) ?_
        refine q_ishr (v := (q_sr p2 v5)) C0 dX9_looseBy_27 rfl ?_
        refine lv_iconst (v := (1 : Int32)) hx hb dX9_looseBy_28 (by decide) ?_
        refine lv_iand hx hb dX9_looseBy_29 ?_
        refine lv_if_ne (tgt := 43) hx hb dX9_looseBy_30 (by decide) (fun c3 => ?_) (fun c3 => ?_)
        · replace h := q_f h c3
          refine lv_lconst (v := (0 : Int64)) hx hb dX9_looseBy_43 (by decide) ?_
          refine lv_lor hx hb dX9_looseBy_44 ?_
          refine lv_lstore_n (lv' := [(3, .long (v3 ||| (0 : Int64))), (0, .ref (ad k)), (1, .int p1), (2, .int p2), (5, .int v5)]) hx hb dX9_looseBy_45 rfl hl (by decide) rfl (fun ls hl => ?_)
          refine lv_iinc (v := (v5 + (1 : Int32))) (lv' := [(5, .int (v5 + (1 : Int32))), (3, .long (v3 ||| (0 : Int64))), (0, .ref (ad k)), (1, .int p1), (2, .int p2)]) hx hb dX9_looseBy_46 hl (k := 4) rfl rfl (by decide) rfl (fun ls hl => ?_)
          refine lv_goto (tgt := 8) hx hb dX9_looseBy_49 (by decide) ?_
          exact hrec8 (v3 ||| (0 : Int64)) (v5 + (1 : Int32)) σ _ _ _ hw (lv_sub hl [2, 3, 4, 1, 0] rfl) h
        · replace h := q_t h c3
          refine lv_aload_n hx hb dX9_looseBy_33 rfl (lv_at hl 0 rfl) ?_
          refine gt_X9_14 C0 hw hk iX9_looseBy_X9 (by decide +kernel) dX9_looseBy_34 ?_
          refine lv_iload hx hb dX9_looseBy_37 (lv_at hl 4 rfl) ?_
          obtain ⟨b4, h⟩ := q_if h
          refine q_lald (t0 := 1) C0 hw (mN_11 hk) (mE_11 hk) rfl b4 dX9_looseBy_39 ?_
          refine lv_goto (tgt := 44) hx hb dX9_looseBy_40 (by decide) ?_
          refine lv_lor hx hb dX9_looseBy_44 ?_
          refine lv_topl (fun x5 e_x5 => ?_)
          replace h := q_let_at e_x5 h
          refine lv_lstore_n (lv' := [(3, .long x5), (0, .ref (ad k)), (1, .int p1), (2, .int p2), (5, .int v5)]) hx hb dX9_looseBy_45 rfl hl (by decide) rfl (fun ls hl => ?_)
          refine lv_iinc (v := (v5 + (1 : Int32))) (lv' := [(5, .int (v5 + (1 : Int32))), (3, .long x5), (0, .ref (ad k)), (1, .int p1), (2, .int p2)]) hx hb dX9_looseBy_46 hl (k := 4) rfl rfl (by decide) rfl (fun ls hl => ?_)
          refine lv_goto (tgt := 8) hx hb dX9_looseBy_49 (by decide) ?_
          exact hrec8 x5 (v5 + (1 : Int32)) σ _ _ _ hw (lv_sub hl [2, 3, 4, 1, 0] rfl) h
set_option maxHeartbeats 4000000 in
set_option maxRecDepth 100000 in
theorem kX9_looseBy {k : Nat} {p1 : Int32} {p2 : Int32} (hk : mB N k) {σ : q_M} {out : Int32 × q_M} (h : fX9_looseBy k p1 p2 σ = some out) : q_Mi l (gM D cI cJ cR ad adK adV N) yX9_looseBy wsX9_looseBy { frames := 4, cells := 0, slots := 0, locals := 104 } [.ref (ad k), .int p1, .int p2] σ out := by
  refine q_Mi_of (cc := cX9_looseBy) (maxL := 6) (ret := (some .int)) (by decide) rfl (Nat.le_of_ble_eq_true rfl) ?_
  intro p e s m below meth c ls C0 hr hlk hl hw
  obtain ⟨hx, hb, hml, hown, hts⟩ := id C0
  replace hl : lv_has ls 6 [(0, .ref (ad k)), (1, .int p1), (2, .int p2)] := hl
  unfold fX9_looseBy at h
  refine lv_aload_n hx hb dX9_looseBy_0 rfl (lv_at hl 0 rfl) ?_
  refine gt_X9_12 C0 hw hk iX9_looseBy_X9 (by decide +kernel) dX9_looseBy_1 ?_
  refine lv_lstore_n (lv' := [(3, .long (σ.2 k 12)), (0, .ref (ad k)), (1, .int p1), (2, .int p2)]) hx hb dX9_looseBy_4 rfl hl (by decide) rfl (fun ls hl => ?_)
  refine lv_iconst (v := (0 : Int32)) hx hb dX9_looseBy_5 (by decide) ?_
  refine lv_istore (lv' := [(5, .int (0 : Int32)), (3, .long (σ.2 k 12)), (0, .ref (ad k)), (1, .int p1), (2, .int p2)]) hx hb dX9_looseBy_6 hl (by decide) rfl (fun ls hl => ?_)
  exact tX9_looseBy_c8 hk C0 hr hlk q_FU (σ.2 k 12) (0 : Int32) σ _ _ _ hw (lv_sub hl [2, 3, 4, 1, 0] rfl) h
-- X9_loose loose(I)I
theorem iX9_loose_X9 : ∀ w ∈ wsX90, w ∈ wsX9_loose := by decide +kernel
theorem eX9_looseBy : yX9_looseBy.cls = RX9 ∧ yX9_looseBy.cls ≠ "java/lang/invoke/MethodHandle" ∧ yX9_looseBy.cls ≠ "java/lang/invoke/VarHandle" ∧ (parseMethodDescriptor yX9_looseBy.desc).map (fun d => d.parameters.length) = some 2 := by decide +kernel
set_option maxHeartbeats 4000000 in
set_option maxRecDepth 100000 in
theorem kX9_loose {k : Nat} {p1 : Int32} (hk : mB N k) {σ : q_M} {out : Int32 × q_M} (h : fX9_loose k p1 σ = some out) : q_Mi l (gM D cI cJ cR ad adK adV N) yX9_loose wsX9_loose { frames := 5, cells := 0, slots := 0, locals := 129 } [.ref (ad k), .int p1] σ out := by
  refine q_Mi_of (cc := cX9_loose) (maxL := 2) (ret := (some .int)) (by decide) rfl (Nat.le_of_ble_eq_true rfl) ?_
  intro p e s m below meth c ls C0 hr hlk hl hw
  obtain ⟨hx, hb, hml, hown, hts⟩ := id C0
  replace hl : lv_has ls 2 [(0, .ref (ad k)), (1, .int p1)] := hl
  unfold fX9_loose at h
  refine lv_aload_n hx hb dX9_loose_0 rfl (lv_at hl 0 rfl) ?_
  refine lv_iload_n hx hb dX9_loose_1 rfl (lv_at hl 1 rfl) ?_
  obtain ⟨o1, hco1, h⟩ := q_bind h
  refine q_calli hw (va_runV (As := [.int p1]) (rest := []) C0 (kX9_isPiece hk hco1 _) (cwV 1 hts gX9_loose_X9_isPiece rfl rfl rfl eX9_isPiece ⟨(Nat.le_of_ble_eq_true rfl), (Nat.le_of_ble_eq_true rfl)⟩) ⟨q_blind, q_recv hw (mN_0 hk) (mE_0 hk) rfl, q_pre hw⟩ rfl rfl hl.1 rfl (lv_room (Nat.le_of_ble_eq_true rfl)) dX9_loose_2 ⟨Nat.zero_le _, Nat.zero_le _⟩) (fun H locs hw => ?_)
  refine lv_if_ne (tgt := 15) hx hb dX9_loose_5 (by decide) (fun c2 => ?_) (fun c2 => ?_)
  · replace h := q_f h c2
    refine lv_aload_n hx hb dX9_loose_15 rfl (lv_at hl 0 rfl) ?_
    refine lv_iload_n hx hb dX9_loose_16 rfl (lv_at hl 1 rfl) ?_
    obtain ⟨o3, hco3, h⟩ := q_bind h
    refine q_calli hw (va_runV (As := [.int p1]) (rest := []) C0 (kX9_isOff hk hco3 _) (cwV 1 hts gX9_loose_X9_isOff rfl rfl rfl eX9_isOff ⟨(Nat.le_of_ble_eq_true rfl), (Nat.le_of_ble_eq_true rfl)⟩) ⟨q_blind, q_recv hw (mN_0 hk) (mE_0 hk) rfl, q_pre hw⟩ rfl rfl hl.1 rfl (lv_room (Nat.le_of_ble_eq_true rfl)) dX9_loose_17 ⟨Nat.zero_le _, Nat.zero_le _⟩) (fun H locs hw => ?_)
    refine lv_if_eq (tgt := 32) hx hb dX9_loose_20 (by decide) (fun c4 => ?_) (fun c4 => ?_)
    · replace h := q_t h c4
      refine lv_aload_n hx hb dX9_loose_32 rfl (lv_at hl 0 rfl) ?_
      refine lv_iload_n hx hb dX9_loose_33 rfl (lv_at hl 1 rfl) ?_
      refine lv_aload_n hx hb dX9_loose_34 rfl (lv_at hl 0 rfl) ?_
      refine gt_X9_15 C0 hw hk iX9_loose_X9 (by decide +kernel) dX9_loose_35 ?_
      obtain ⟨o5, hco5, h⟩ := q_bind h
      refine q_calli hw (va_runV (As := [.int p1, .int (o3.2.1 k 15)]) (rest := []) C0 (kX9_looseBy hk hco5 _) (cwV 2 hts gX9_loose_X9_looseBy rfl rfl rfl eX9_looseBy ⟨(Nat.le_of_ble_eq_true rfl), (Nat.le_of_ble_eq_true rfl)⟩) ⟨q_blind, q_recv hw (mN_0 hk) (mE_0 hk) rfl, q_pre hw⟩ rfl rfl hl.1 rfl (lv_room (Nat.le_of_ble_eq_true rfl)) dX9_loose_38 ⟨Nat.zero_le _, Nat.zero_le _⟩) (fun H locs hw => ?_)
      exact q_iret h C0 hr hlk hw dX9_loose_41
    · replace h := q_f h c4
      refine lv_aload_n hx hb dX9_loose_23 rfl (lv_at hl 0 rfl) ?_
      refine lv_bipush (v := (-5 : Int32)) hx hb dX9_loose_24 (by decide) ?_
      obtain ⟨o6, hco6, h⟩ := q_bind h
      refine q_calli hw (va_runV (As := [.int (-5 : Int32)]) (rest := []) C0 (kX9_refuse hk hco6 _) (cwV 1 hts gX9_loose_X9_refuse rfl rfl rfl eX9_refuse ⟨(Nat.le_of_ble_eq_true rfl), (Nat.le_of_ble_eq_true rfl)⟩) ⟨q_blind, q_recv hw (mN_0 hk) (mE_0 hk) rfl, q_pre hw⟩ rfl rfl hl.1 rfl (lv_room (Nat.le_of_ble_eq_true rfl)) dX9_loose_26 ⟨Nat.zero_le _, Nat.zero_le _⟩) (fun H locs hw => ?_)
      refine lv_goto (tgt := 41) hx hb dX9_loose_29 (by decide) ?_
      exact q_iret h C0 hr hlk hw dX9_loose_41
  · replace h := q_t h c2
    refine lv_aload_n hx hb dX9_loose_8 rfl (lv_at hl 0 rfl) ?_
    refine lv_bipush (v := (-2 : Int32)) hx hb dX9_loose_9 (by decide) ?_
    obtain ⟨o7, hco7, h⟩ := q_bind h
    refine q_calli hw (va_runV (As := [.int (-2 : Int32)]) (rest := []) C0 (kX9_refuse hk hco7 _) (cwV 1 hts gX9_loose_X9_refuse rfl rfl rfl eX9_refuse ⟨(Nat.le_of_ble_eq_true rfl), (Nat.le_of_ble_eq_true rfl)⟩) ⟨q_blind, q_recv hw (mN_0 hk) (mE_0 hk) rfl, q_pre hw⟩ rfl rfl hl.1 rfl (lv_room (Nat.le_of_ble_eq_true rfl)) dX9_loose_11 ⟨Nat.zero_le _, Nat.zero_le _⟩) (fun H locs hw => ?_)
    exact q_iret h C0 hr hlk hw dX9_loose_14
-- X9_bars bars(II)I
theorem iX9_bars_X9 : ∀ w ∈ wsX90, w ∈ wsX9_bars := by decide +kernel
set_option maxHeartbeats 4000000 in
set_option maxRecDepth 100000 in
theorem tX9_bars_c60 {k : Nat} {p1 : Int32} {p2 : Int32} (hk : mB N k) (C0 : CallFix p m c cX9_bars 6 s args wsX9_bars RX9) (hr : meth.sig.returnType = (some .int)) (hlk : meth.locks = false) {out : Int32 × q_M}  : ∀ n : Nat, ∀ (v4 : Int32) (v5 : Int32) (σ : q_M) (H : Heap) (locs : List Loc) (ls : Array Slot), q_H (gM D cI cJ cR ad adK adV N) (q_A (gM D cI cJ cR ad adK adV N) s.heap.size) s σ H locs → lv_has ls 6 [(0, .ref (ad k)), (1, .int p1), (2, .int p2), (4, .int v4), (5, .int v5)] → fX9_bars_c60 k p1 p2 n v4 v5 σ = some out → W p l e { frames := 4, cells := 0, slots := 0, locals := 104 } s m args below meth c H locs 0 0 (MQ below (q_Ri (gM D cI cJ cR ad adK adV N) (q_A (gM D cI cJ cR ad adK adV N) s.heap.size) out) args s 0 0 (q_A (gM D cI cJ cR ad adK adV N) s.heap.size)) (F0 m 60 ls []) := by
  obtain ⟨hx, hb, hml, hown, hts⟩ := id C0
  intro n
  induction n with
  | zero =>
    intro v4 v5 σ H locs ls  hw hl h
    cases (show (none : Option (Int32 × q_M)) = some out from h)
  | succ n hrec60 =>
    intro v4 v5 σ H locs ls  hw hl h
    replace h : fX9_bars_c60b k p1 p2 (fX9_bars_c60 k p1 p2 n) v4 v5 σ = some out := h
    unfold fX9_bars_c60b at h
    refine lv_iload hx hb dX9_bars_60 (lv_at hl 4 rfl) ?_
    refine lv_aload_n hx hb dX9_bars_62 rfl (lv_at hl 0 rfl) ?_
    refine gt_X9_13 C0 hw hk iX9_bars_X9 (by decide +kernel) dX9_bars_63 ?_
    refine lv_icmp_ge (tgt := 124) hx hb dX9_bars_66 (by decide) (fun c1 => ?_) (fun c1 => ?_)
    · replace h := q_t h c1
      refine lv_iload hx hb dX9_bars_124 (lv_at hl 3 rfl) ?_
      exact q_iret h C0 hr hlk hw dX9_bars_126
    · replace h := q_f h c1
      refine lv_iload hx hb dX9_bars_69 (lv_at hl 3 rfl) ?_
      refine lv_iload hx hb dX9_bars_71 (lv_at hl 4 rfl) ?_
      refine lv_iload_n hx hb dX9_bars_73 rfl (lv_at hl 2 rfl) ?_
      refine lv_icmp_eq (tgt := 114) hx hb dX9_bars_74 (by decide) (fun c2 => ?_) (fun c2 => ?_)
      · replace h := q_t h c2
        refine lv_iconst (v := (0 : Int32)) hx hb dX9_bars_114 (by decide) ?_
        refine lv_ior hx hb dX9_bars_115 ?_
        refine lv_istore (lv' := [(4, .int (v4 ||| (0 : Int32))), (0, .ref (ad k)), (1, .int p1), (2, .int p2), (5, .int v5)]) hx hb dX9_bars_116 hl (by decide) rfl (fun ls hl => ?_)
        refine lv_iinc (v := (v5 + (1 : Int32))) (lv' := [(5, .int (v5 + (1 : Int32))), (4, .int (v4 ||| (0 : Int32))), (0, .ref (ad k)), (1, .int p1), (2, .int p2)]) hx hb dX9_bars_118 hl (k := 4) rfl rfl (by decide) rfl (fun ls hl => ?_)
        refine lv_goto (tgt := 60) hx hb dX9_bars_121 (by decide) ?_
        exact hrec60 (v4 ||| (0 : Int32)) (v5 + (1 : Int32)) σ _ _ _ hw (lv_sub hl [2, 3, 4, 1, 0] rfl) h
      · replace h := q_f h c2
        refine lv_aload_n hx hb dX9_bars_77 rfl (lv_at hl 0 rfl) ?_
        refine lv_iload hx hb dX9_bars_78 (lv_at hl 4 rfl) ?_
        obtain ⟨o3, hco3, h⟩ := q_bind h
        refine q_calli hw (va_runV (As := [.int v5]) (rest := [.int v4]) C0 (kX9_isOff hk hco3 _) (cwV 1 hts gX9_bars_X9_isOff rfl rfl rfl eX9_isOff ⟨(Nat.le_of_ble_eq_true rfl), (Nat.le_of_ble_eq_true rfl)⟩) ⟨q_blind, q_recv hw (mN_0 hk) (mE_0 hk) rfl, q_pre hw⟩ rfl rfl hl.1 rfl (lv_room (Nat.le_of_ble_eq_true rfl)) dX9_bars_80 ⟨Nat.zero_le _, Nat.zero_le _⟩) (fun H locs hw => ?_)
        refine lv_if_ne (tgt := 114) hx hb dX9_bars_83 (by decide) (fun c4 => ?_) (fun c4 => ?_)
        · replace h := q_f h c4
          refine lv_iconst (v := (0 : Int32)) hx hb dX9_bars_114 (by decide) ?_
          refine lv_ior hx hb dX9_bars_115 ?_
          refine lv_istore (lv' := [(4, .int (v4 ||| (0 : Int32))), (0, .ref (ad k)), (1, .int p1), (2, .int p2), (5, .int v5)]) hx hb dX9_bars_116 hl (by decide) rfl (fun ls hl => ?_)
          refine lv_iinc (v := (v5 + (1 : Int32))) (lv' := [(5, .int (v5 + (1 : Int32))), (4, .int (v4 ||| (0 : Int32))), (0, .ref (ad k)), (1, .int p1), (2, .int p2)]) hx hb dX9_bars_118 hl (k := 4) rfl rfl (by decide) rfl (fun ls hl => ?_)
          refine lv_goto (tgt := 60) hx hb dX9_bars_121 (by decide) ?_
          exact hrec60 (v4 ||| (0 : Int32)) (v5 + (1 : Int32)) o3.2 _ _ _ hw (lv_sub hl [2, 3, 4, 1, 0] rfl) h
        · replace h := q_t h c4
          refine lv_aload_n hx hb dX9_bars_86 rfl (lv_at hl 0 rfl) ?_
          refine lv_iload_n hx hb dX9_bars_87 rfl (lv_at hl 1 rfl) ?_
          refine lv_aload_n hx hb dX9_bars_88 rfl (lv_at hl 0 rfl) ?_
          refine gt_X9_14 C0 hw hk iX9_bars_X9 (by decide +kernel) dX9_bars_89 ?_
          refine lv_iload_n hx hb dX9_bars_92 rfl (lv_at hl 2 rfl) ?_
          obtain ⟨b5, h⟩ := q_if h
          refine q_lald (t0 := 1) C0 hw (mN_11 hk) (mE_11 hk) rfl b5 dX9_bars_93 ?_
          refine lv_aload_n hx hb dX9_bars_94 rfl (lv_at hl 0 rfl) ?_
          refine gt_X9_14 C0 hw hk iX9_bars_X9 (by decide +kernel) dX9_bars_95 ?_
          refine lv_iload hx hb dX9_bars_98 (lv_at hl 4 rfl) ?_
          obtain ⟨b6, h⟩ := q_if h
          refine q_lald (t0 := 1) C0 hw (mN_11 hk) (mE_11 hk) rfl b6 dX9_bars_100 ?_
          obtain ⟨o7, hco7, h⟩ := q_bind h
          refine q_calli hw (va_runV (As := [.int p1, .long (o3.2.2 (k + 11) p2.toNatClampNeg), .long (o3.2.2 (k + 11) v5.toNatClampNeg)]) (rest := [.int v4]) C0 (kX9_comesBy hk hco7 _) (cwV 3 hts gX9_bars_X9_comesBy rfl rfl rfl eX9_comesBy ⟨(Nat.le_of_ble_eq_true rfl), (Nat.le_of_ble_eq_true rfl)⟩) ⟨q_blind, q_recv hw (mN_0 hk) (mE_0 hk) rfl, q_pre hw⟩ rfl rfl hl.1 rfl (lv_room (Nat.le_of_ble_eq_true rfl)) dX9_bars_101 ⟨Nat.zero_le _, Nat.zero_le _⟩) (fun H locs hw => ?_)
          refine lv_if_ne (tgt := 114) hx hb dX9_bars_104 (by decide) (fun c8 => ?_) (fun c8 => ?_)
          · replace h := q_f h c8
            refine lv_iconst (v := (0 : Int32)) hx hb dX9_bars_114 (by decide) ?_
            refine lv_ior hx hb dX9_bars_115 ?_
            refine lv_istore (lv' := [(4, .int (v4 ||| (0 : Int32))), (0, .ref (ad k)), (1, .int p1), (2, .int p2), (5, .int v5)]) hx hb dX9_bars_116 hl (by decide) rfl (fun ls hl => ?_)
            refine lv_iinc (v := (v5 + (1 : Int32))) (lv' := [(5, .int (v5 + (1 : Int32))), (4, .int (v4 ||| (0 : Int32))), (0, .ref (ad k)), (1, .int p1), (2, .int p2)]) hx hb dX9_bars_118 hl (k := 4) rfl rfl (by decide) rfl (fun ls hl => ?_)
            refine lv_goto (tgt := 60) hx hb dX9_bars_121 (by decide) ?_
            exact hrec60 (v4 ||| (0 : Int32)) (v5 + (1 : Int32)) o7.2 _ _ _ hw (lv_sub hl [2, 3, 4, 1, 0] rfl) h
          · replace h := q_t h c8
            refine lv_iconst (v := (1 : Int32)) hx hb dX9_bars_107 (by decide) ?_
            refine lv_iload hx hb dX9_bars_108 (lv_at hl 4 rfl) ?_
            refine q_ishl (v := (q_sl (1 : Int32) v5)) C0 dX9_bars_110 rfl ?_
            refine lv_goto (tgt := 115) hx hb dX9_bars_111 (by decide) ?_
            refine lv_ior hx hb dX9_bars_115 ?_
            refine lv_topi (fun x9 e_x9 => ?_)
            replace h := q_let_at e_x9 h
            refine lv_istore (lv' := [(4, .int x9), (0, .ref (ad k)), (1, .int p1), (2, .int p2), (5, .int v5)]) hx hb dX9_bars_116 hl (by decide) rfl (fun ls hl => ?_)
            refine lv_iinc (v := (v5 + (1 : Int32))) (lv' := [(5, .int (v5 + (1 : Int32))), (4, .int x9), (0, .ref (ad k)), (1, .int p1), (2, .int p2)]) hx hb dX9_bars_118 hl (k := 4) rfl rfl (by decide) rfl (fun ls hl => ?_)
            refine lv_goto (tgt := 60) hx hb dX9_bars_121 (by decide) ?_
            exact hrec60 x9 (v5 + (1 : Int32)) o7.2 _ _ _ hw (lv_sub hl [2, 3, 4, 1, 0] rfl) h
set_option maxHeartbeats 4000000 in
set_option maxRecDepth 100000 in
theorem kX9_bars {k : Nat} {p1 : Int32} {p2 : Int32} (hk : mB N k) {σ : q_M} {out : Int32 × q_M} (h : fX9_bars k p1 p2 σ = some out) : q_Mi l (gM D cI cJ cR ad adK adV N) yX9_bars wsX9_bars { frames := 4, cells := 0, slots := 0, locals := 104 } [.ref (ad k), .int p1, .int p2] σ out := by
  refine q_Mi_of (cc := cX9_bars) (maxL := 6) (ret := (some .int)) (by decide) rfl (Nat.le_of_ble_eq_true rfl) ?_
  intro p e s m below meth c ls C0 hr hlk hl hw
  obtain ⟨hx, hb, hml, hown, hts⟩ := id C0
  replace hl : lv_has ls 6 [(0, .ref (ad k)), (1, .int p1), (2, .int p2)] := hl
  unfold fX9_bars at h
  refine lv_iload_n hx hb dX9_bars_0 rfl (lv_at hl 1 rfl) ?_
  refine lv_i2l hx hb dX9_bars_1 rfl ?_
  refine lv_lconst (v := (0 : Int64)) hx hb dX9_bars_2 (by decide) ?_
  refine lv_ldc2 (v := (7 : Int64)) hx hb hown (hts (.constantLong RX9 118 (7)) (by decide +kernel)) dX9_bars_3 ?_
  obtain ⟨o1, hco1, h⟩ := q_bind h
  refine q_calli hw (va_runS (As := [.long p1.toInt64, .long (0 : Int64), .long (7 : Int64)]) (rest := []) C0 (kX9_in hco1 _) (va_cwS 3 hts gX9_bars_X9_in rfl rfl rfl eX9_in ⟨(Nat.le_of_ble_eq_true rfl), (Nat.le_of_ble_eq_true rfl)⟩) ⟨q_blind, q_pre hw⟩ rfl rfl hl.1 rfl (lv_room (Nat.le_of_ble_eq_true rfl)) dX9_bars_6 ⟨Nat.zero_le _, Nat.zero_le _⟩) (fun H locs hw => ?_)
  refine lv_if_eq (tgt := 20) hx hb dX9_bars_9 (by decide) (fun c2 => ?_) (fun c2 => ?_)
  · replace h := q_t h c2
    refine lv_aload_n hx hb dX9_bars_20 rfl (lv_at hl 0 rfl) ?_
    refine lv_bipush (v := (-2 : Int32)) hx hb dX9_bars_21 (by decide) ?_
    obtain ⟨o3, hco3, h⟩ := q_bind h
    refine q_calli hw (va_runV (As := [.int (-2 : Int32)]) (rest := []) C0 (kX9_refuse hk hco3 _) (cwV 1 hts gX9_bars_X9_refuse rfl rfl rfl eX9_refuse ⟨(Nat.le_of_ble_eq_true rfl), (Nat.le_of_ble_eq_true rfl)⟩) ⟨q_blind, q_recv hw (mN_0 hk) (mE_0 hk) rfl, q_pre hw⟩ rfl rfl hl.1 rfl (lv_room (Nat.le_of_ble_eq_true rfl)) dX9_bars_23 ⟨Nat.zero_le _, Nat.zero_le _⟩) (fun H locs hw => ?_)
    exact q_iret h C0 hr hlk hw dX9_bars_26
  · replace h := q_f h c2
    refine lv_aload_n hx hb dX9_bars_12 rfl (lv_at hl 0 rfl) ?_
    refine lv_iload_n hx hb dX9_bars_13 rfl (lv_at hl 2 rfl) ?_
    obtain ⟨o4, hco4, h⟩ := q_bind h
    refine q_calli hw (va_runV (As := [.int p2]) (rest := []) C0 (kX9_isPiece hk hco4 _) (cwV 1 hts gX9_bars_X9_isPiece rfl rfl rfl eX9_isPiece ⟨(Nat.le_of_ble_eq_true rfl), (Nat.le_of_ble_eq_true rfl)⟩) ⟨q_blind, q_recv hw (mN_0 hk) (mE_0 hk) rfl, q_pre hw⟩ rfl rfl hl.1 rfl (lv_room (Nat.le_of_ble_eq_true rfl)) dX9_bars_14 ⟨Nat.zero_le _, Nat.zero_le _⟩) (fun H locs hw => ?_)
    refine lv_if_ne (tgt := 27) hx hb dX9_bars_17 (by decide) (fun c5 => ?_) (fun c5 => ?_)
    · replace h := q_f h c5
      refine lv_aload_n hx hb dX9_bars_27 rfl (lv_at hl 0 rfl) ?_
      refine lv_iload_n hx hb dX9_bars_28 rfl (lv_at hl 1 rfl) ?_
      obtain ⟨o6, hco6, h⟩ := q_bind h
      refine q_calli hw (va_runV (As := [.int p1]) (rest := []) C0 (kX9_noMove hk hco6 _) (cwV 1 hts gX9_bars_X9_noMove rfl rfl rfl eX9_noMove ⟨(Nat.le_of_ble_eq_true rfl), (Nat.le_of_ble_eq_true rfl)⟩) ⟨q_blind, q_recv hw (mN_0 hk) (mE_0 hk) rfl, q_pre hw⟩ rfl rfl hl.1 rfl (lv_room (Nat.le_of_ble_eq_true rfl)) dX9_bars_29 ⟨Nat.zero_le _, Nat.zero_le _⟩) (fun H locs hw => ?_)
      refine lv_istore_n (lv' := [(3, .int o6.1), (0, .ref (ad k)), (1, .int p1), (2, .int p2)]) hx hb dX9_bars_32 rfl hl (by decide) rfl (fun ls hl => ?_)
      refine lv_iload_n hx hb dX9_bars_33 rfl (lv_at hl 0 rfl) ?_
      refine lv_if_eq (tgt := 39) hx hb dX9_bars_34 (by decide) (fun c7 => ?_) (fun c7 => ?_)
      · replace h := q_t h c7
        refine lv_aload_n hx hb dX9_bars_39 rfl (lv_at hl 1 rfl) ?_
        refine lv_iload_n hx hb dX9_bars_40 rfl (lv_at hl 3 rfl) ?_
        obtain ⟨o8, hco8, h⟩ := q_bind h
        refine q_calli hw (va_runV (As := [.int p2]) (rest := []) C0 (kX9_isOff hk hco8 _) (cwV 1 hts gX9_bars_X9_isOff rfl rfl rfl eX9_isOff ⟨(Nat.le_of_ble_eq_true rfl), (Nat.le_of_ble_eq_true rfl)⟩) ⟨q_blind, q_recv hw (mN_0 hk) (mE_0 hk) rfl, q_pre hw⟩ rfl rfl hl.1 rfl (lv_room (Nat.le_of_ble_eq_true rfl)) dX9_bars_41 ⟨Nat.zero_le _, Nat.zero_le _⟩) (fun H locs hw => ?_)
        refine lv_if_eq (tgt := 54) hx hb dX9_bars_44 (by decide) (fun c9 => ?_) (fun c9 => ?_)
        · replace h := q_t h c9
          refine lv_iconst (v := (0 : Int32)) hx hb dX9_bars_54 (by decide) ?_
          refine lv_istore (lv' := [(4, .int (0 : Int32)), (3, .int o6.1), (0, .ref (ad k)), (1, .int p1), (2, .int p2)]) hx hb dX9_bars_55 hl (by decide) rfl (fun ls hl => ?_)
          refine lv_iconst (v := (0 : Int32)) hx hb dX9_bars_57 (by decide) ?_
          refine lv_istore (lv' := [(5, .int (0 : Int32)), (4, .int (0 : Int32)), (3, .int o6.1), (0, .ref (ad k)), (1, .int p1), (2, .int p2)]) hx hb dX9_bars_58 hl (by decide) rfl (fun ls hl => ?_)
          exact tX9_bars_c60 hk C0 hr hlk q_FU (0 : Int32) (0 : Int32) o8.2 _ _ _ hw (lv_sub hl [3, 4, 5, 1, 0] rfl) h
        · replace h := q_f h c9
          refine lv_aload_n hx hb dX9_bars_47 rfl (lv_at hl 1 rfl) ?_
          refine lv_bipush (v := (-5 : Int32)) hx hb dX9_bars_48 (by decide) ?_
          obtain ⟨o10, hco10, h⟩ := q_bind h
          refine q_calli hw (va_runV (As := [.int (-5 : Int32)]) (rest := []) C0 (kX9_refuse hk hco10 _) (cwV 1 hts gX9_bars_X9_refuse rfl rfl rfl eX9_refuse ⟨(Nat.le_of_ble_eq_true rfl), (Nat.le_of_ble_eq_true rfl)⟩) ⟨q_blind, q_recv hw (mN_0 hk) (mE_0 hk) rfl, q_pre hw⟩ rfl rfl hl.1 rfl (lv_room (Nat.le_of_ble_eq_true rfl)) dX9_bars_50 ⟨Nat.zero_le _, Nat.zero_le _⟩) (fun H locs hw => ?_)
          exact q_iret h C0 hr hlk hw dX9_bars_53
      · replace h := q_f h c7
        refine lv_iload_n hx hb dX9_bars_37 rfl (lv_at hl 0 rfl) ?_
        exact q_iret h C0 hr hlk hw dX9_bars_38
    · replace h := q_t h c5
      refine lv_aload_n hx hb dX9_bars_20 rfl (lv_at hl 0 rfl) ?_
      refine lv_bipush (v := (-2 : Int32)) hx hb dX9_bars_21 (by decide) ?_
      obtain ⟨o11, hco11, h⟩ := q_bind h
      refine q_calli hw (va_runV (As := [.int (-2 : Int32)]) (rest := []) C0 (kX9_refuse hk hco11 _) (cwV 1 hts gX9_bars_X9_refuse rfl rfl rfl eX9_refuse ⟨(Nat.le_of_ble_eq_true rfl), (Nat.le_of_ble_eq_true rfl)⟩) ⟨q_blind, q_recv hw (mN_0 hk) (mE_0 hk) rfl, q_pre hw⟩ rfl rfl hl.1 rfl (lv_room (Nat.le_of_ble_eq_true rfl)) dX9_bars_23 ⟨Nat.zero_le _, Nat.zero_le _⟩) (fun H locs hw => ?_)
      exact q_iret h C0 hr hlk hw dX9_bars_26
-- X9_findOrder findOrder()I
theorem iX9_findOrder_X9 : ∀ w ∈ wsX90, w ∈ wsX9_findOrder := by decide +kernel
set_option maxHeartbeats 4000000 in
set_option maxRecDepth 100000 in
theorem tX9_findOrder_c50 {k : Nat} {rec12 : Int32 → Int32 → q_M → Option (Int32 × q_M)} {rec20 : Int32 → Int32 → Int32 → q_M → Option (Int32 × q_M)} (hk : mB N k) (C0 : CallFix p m c cX9_findOrder 5 s args wsX9_findOrder RX9) (hr : meth.sig.returnType = (some .int)) (hlk : meth.locks = false) {out : Int32 × q_M} (hrec12 : ∀ (v1 : Int32) (v2 : Int32) (σ : q_M) (H : Heap) (locs : List Loc) (ls : Array Slot), q_H (gM D cI cJ cR ad adK adV N) (q_A (gM D cI cJ cR ad adK adV N) s.heap.size) s σ H locs → lv_has ls 5 [(0, .ref (ad k)), (1, .int v1), (2, .int v2)] → rec12 v1 v2 σ = some out → W p l e { frames := 5, cells := 0, slots := 0, locals := 129 } s m args below meth c H locs 0 0 (MQ below (q_Ri (gM D cI cJ cR ad adK adV N) (q_A (gM D cI cJ cR ad adK adV N) s.heap.size) out) args s 0 0 (q_A (gM D cI cJ cR ad adK adV N) s.heap.size)) (F0 m 12 ls [])) (hrec20 : ∀ (v1 : Int32) (v2 : Int32) (v3 : Int32) (σ : q_M) (H : Heap) (locs : List Loc) (ls : Array Slot), q_H (gM D cI cJ cR ad adK adV N) (q_A (gM D cI cJ cR ad adK adV N) s.heap.size) s σ H locs → lv_has ls 5 [(0, .ref (ad k)), (1, .int v1), (2, .int v2), (3, .int v3)] → rec20 v1 v2 v3 σ = some out → W p l e { frames := 5, cells := 0, slots := 0, locals := 129 } s m args below meth c H locs 0 0 (MQ below (q_Ri (gM D cI cJ cR ad adK adV N) (q_A (gM D cI cJ cR ad adK adV N) s.heap.size) out) args s 0 0 (q_A (gM D cI cJ cR ad adK adV N) s.heap.size)) (F0 m 20 ls [])) : ∀ (v1 : Int32) (v2 : Int32) (v3 : Int32) (s0 : Int32) (σ : q_M) (H : Heap) (locs : List Loc) (ls : Array Slot), q_H (gM D cI cJ cR ad adK adV N) (q_A (gM D cI cJ cR ad adK adV N) s.heap.size) s σ H locs → lv_has ls 5 [(0, .ref (ad k)), (1, .int v1), (2, .int v2), (3, .int v3)] → fX9_findOrder_c50 k rec12 rec20 v1 v2 v3 s0 σ = some out → W p l e { frames := 5, cells := 0, slots := 0, locals := 129 } s m args below meth c H locs 0 0 (MQ below (q_Ri (gM D cI cJ cR ad adK adV N) (q_A (gM D cI cJ cR ad adK adV N) s.heap.size) out) args s 0 0 (q_A (gM D cI cJ cR ad adK adV N) s.heap.size)) (F0 m 50 ls [.int s0]) := by
  obtain ⟨hx, hb, hml, hown, hts⟩ := id C0
  intro v1 v2 v3 s0 σ H locs ls  hw hl h
  unfold fX9_findOrder_c50 at h
  refine lv_istore (lv' := [(4, .int s0), (0, .ref (ad k)), (1, .int v1), (2, .int v2), (3, .int v3)]) hx hb dX9_findOrder_50 hl (by decide) rfl (fun ls hl => ?_)
  refine lv_iload hx hb dX9_findOrder_52 (lv_at hl 0 rfl) ?_
  refine lv_iconst (v := (-1 : Int32)) hx hb dX9_findOrder_54 (by decide) ?_
  refine lv_icmp_eq (tgt := 94) hx hb dX9_findOrder_55 (by decide) (fun c1 => ?_) (fun c1 => ?_)
  · replace h := q_t h c1
    refine lv_iinc (v := (v3 + (1 : Int32))) (lv' := [(3, .int (v3 + (1 : Int32))), (4, .int s0), (0, .ref (ad k)), (1, .int v1), (2, .int v2)]) hx hb dX9_findOrder_94 hl (k := 4) rfl rfl (by decide) rfl (fun ls hl => ?_)
    refine lv_goto (tgt := 20) hx hb dX9_findOrder_97 (by decide) ?_
    exact hrec20 v1 v2 (v3 + (1 : Int32)) σ _ _ _ hw (lv_sub hl [2, 3, 4, 0] rfl) h
  · replace h := q_f h c1
    refine lv_aload_n hx hb dX9_findOrder_58 rfl (lv_at hl 1 rfl) ?_
    refine gt_X9_29 C0 hw hk iX9_findOrder_X9 (by decide +kernel) dX9_findOrder_59 ?_
    refine lv_aload_n hx hb dX9_findOrder_62 rfl (lv_at hl 1 rfl) ?_
    refine gt_X9_31 C0 hw hk iX9_findOrder_X9 (by decide +kernel) dX9_findOrder_63 ?_
    refine lv_iload_n hx hb dX9_findOrder_66 rfl (lv_at hl 4 rfl) ?_
    obtain ⟨b2, h⟩ := q_if h
    refine q_iast (t0 := 0) C0 hw (mN_14 hk) (mE_14 hk) rfl b2 dX9_findOrder_67 (fun σ3 H locs e_σ3 hw => ?_)
    replace h := q_let_at e_σ3 h
    refine lv_aload_n hx hb dX9_findOrder_68 rfl (lv_at hl 1 rfl) ?_
    refine gt_X9_30 C0 hw hk iX9_findOrder_X9 (by decide +kernel) dX9_findOrder_69 ?_
    refine lv_aload_n hx hb dX9_findOrder_72 rfl (lv_at hl 1 rfl) ?_
    refine lv_dup hx hb dX9_findOrder_73 rfl ?_
    refine gt_X9_31 C0 hw hk iX9_findOrder_X9 (by decide +kernel) dX9_findOrder_74 ?_
    refine lv_dup_x1 hx hb dX9_findOrder_77 rfl rfl ?_
    refine lv_iconst (v := (1 : Int32)) hx hb dX9_findOrder_78 (by decide) ?_
    refine lv_iadd hx hb dX9_findOrder_79 ?_
    refine pt_X9_31 C0 hw hk iX9_findOrder_X9 (by decide +kernel) dX9_findOrder_80 (fun σ4 H locs e_σ4 hw => ?_)
    replace h := q_let_at e_σ4 h
    refine lv_iload hx hb dX9_findOrder_83 (lv_at hl 0 rfl) ?_
    obtain ⟨b5, h⟩ := q_if h
    refine q_iast (t0 := 0) C0 hw (mN_15 hk) (mE_15 hk) rfl b5 dX9_findOrder_85 (fun σ6 H locs e_σ6 hw => ?_)
    replace h := q_let_at e_σ6 h
    refine lv_iload_n hx hb dX9_findOrder_86 rfl (lv_at hl 2 rfl) ?_
    refine lv_iconst (v := (1 : Int32)) hx hb dX9_findOrder_87 (by decide) ?_
    refine lv_iload_n hx hb dX9_findOrder_88 rfl (lv_at hl 4 rfl) ?_
    refine q_ishl (v := (q_sl (1 : Int32) v3)) C0 dX9_findOrder_89 rfl ?_
    refine lv_ior hx hb dX9_findOrder_90 ?_
    refine lv_topi (fun x7 e_x7 => ?_)
    replace h := q_let_at e_x7 h
    refine lv_istore_n (lv' := [(1, .int x7), (4, .int s0), (0, .ref (ad k)), (2, .int v2), (3, .int v3)]) hx hb dX9_findOrder_91 rfl hl (by decide) rfl (fun ls hl => ?_)
    refine lv_iconst (v := (1 : Int32)) hx hb dX9_findOrder_92 (by decide) ?_
    refine lv_istore_n (lv' := [(2, .int (1 : Int32)), (1, .int x7), (4, .int s0), (0, .ref (ad k)), (3, .int v3)]) hx hb dX9_findOrder_93 rfl hl (by decide) rfl (fun ls hl => ?_)
    refine lv_iinc (v := (v3 + (1 : Int32))) (lv' := [(3, .int (v3 + (1 : Int32))), (2, .int (1 : Int32)), (1, .int x7), (4, .int s0), (0, .ref (ad k))]) hx hb dX9_findOrder_94 hl (k := 4) rfl rfl (by decide) rfl (fun ls hl => ?_)
    refine lv_goto (tgt := 20) hx hb dX9_findOrder_97 (by decide) ?_
    exact hrec20 x7 (1 : Int32) (v3 + (1 : Int32)) σ6 _ _ _ hw (lv_sub hl [4, 2, 1, 0] rfl) h
set_option maxHeartbeats 4000000 in
set_option maxRecDepth 100000 in
theorem tX9_findOrder_c20 {k : Nat} {rec12 : Int32 → Int32 → q_M → Option (Int32 × q_M)} (hk : mB N k) (C0 : CallFix p m c cX9_findOrder 5 s args wsX9_findOrder RX9) (hr : meth.sig.returnType = (some .int)) (hlk : meth.locks = false) {out : Int32 × q_M} (hrec12 : ∀ (v1 : Int32) (v2 : Int32) (σ : q_M) (H : Heap) (locs : List Loc) (ls : Array Slot), q_H (gM D cI cJ cR ad adK adV N) (q_A (gM D cI cJ cR ad adK adV N) s.heap.size) s σ H locs → lv_has ls 5 [(0, .ref (ad k)), (1, .int v1), (2, .int v2)] → rec12 v1 v2 σ = some out → W p l e { frames := 5, cells := 0, slots := 0, locals := 129 } s m args below meth c H locs 0 0 (MQ below (q_Ri (gM D cI cJ cR ad adK adV N) (q_A (gM D cI cJ cR ad adK adV N) s.heap.size) out) args s 0 0 (q_A (gM D cI cJ cR ad adK adV N) s.heap.size)) (F0 m 12 ls [])) : ∀ n : Nat, ∀ (v1 : Int32) (v2 : Int32) (v3 : Int32) (σ : q_M) (H : Heap) (locs : List Loc) (ls : Array Slot), q_H (gM D cI cJ cR ad adK adV N) (q_A (gM D cI cJ cR ad adK adV N) s.heap.size) s σ H locs → lv_has ls 5 [(0, .ref (ad k)), (1, .int v1), (2, .int v2), (3, .int v3)] → fX9_findOrder_c20 k rec12 n v1 v2 v3 σ = some out → W p l e { frames := 5, cells := 0, slots := 0, locals := 129 } s m args below meth c H locs 0 0 (MQ below (q_Ri (gM D cI cJ cR ad adK adV N) (q_A (gM D cI cJ cR ad adK adV N) s.heap.size) out) args s 0 0 (q_A (gM D cI cJ cR ad adK adV N) s.heap.size)) (F0 m 20 ls []) := by
  obtain ⟨hx, hb, hml, hown, hts⟩ := id C0
  intro n
  induction n with
  | zero =>
    intro v1 v2 v3 σ H locs ls  hw hl h
    cases (show (none : Option (Int32 × q_M)) = some out from h)
  | succ n hrec20 =>
    intro v1 v2 v3 σ H locs ls  hw hl h
    replace h : fX9_findOrder_c20b k rec12 (fX9_findOrder_c20 k rec12 n) v1 v2 v3 σ = some out := h
    unfold fX9_findOrder_c20b at h
    refine lv_iload_n hx hb dX9_findOrder_20 rfl (lv_at hl 3 rfl) ?_
    refine lv_aload_n hx hb dX9_findOrder_21 rfl (lv_at hl 0 rfl) ?_
    refine gt_X9_13 C0 hw hk iX9_findOrder_X9 (by decide +kernel) dX9_findOrder_22 ?_
    refine lv_icmp_ge (tgt := 100) hx hb dX9_findOrder_25 (by decide) (fun c1 => ?_) (fun c1 => ?_)
    · replace h := q_t h c1
      refine lv_goto (tgt := 12) hx hb dX9_findOrder_100 (by decide) ?_
      exact hrec12 v1 v2 σ _ _ _ hw (lv_sub hl [0, 1, 2] rfl) h
    · replace h := q_f h c1
      refine lv_iload_n hx hb dX9_findOrder_28 rfl (lv_at hl 2 rfl) ?_
      refine lv_if_ne (tgt := 100) hx hb dX9_findOrder_29 (by decide) (fun c2 => ?_) (fun c2 => ?_)
      · replace h := q_f h c2
        refine lv_goto (tgt := 12) hx hb dX9_findOrder_100 (by decide) ?_
        exact hrec12 v1 v2 σ _ _ _ hw (lv_sub hl [0, 1, 2] rfl) h
      · replace h := q_t h c2
        refine lv_iload_n hx hb dX9_findOrder_32 rfl (lv_at hl 1 rfl) ?_
        refine lv_iload_n hx hb dX9_findOrder_33 rfl (lv_at hl 3 rfl) ?_
        refine q_ishr (v := (q_sr v1 v3)) C0 dX9_findOrder_34 rfl ?_
        refine lv_iconst (v := (1 : Int32)) hx hb dX9_findOrder_35 (by decide) ?_
        refine lv_iand hx hb dX9_findOrder_36 ?_
        refine lv_if_eq (tgt := 44) hx hb dX9_findOrder_37 (by decide) (fun c3 => ?_) (fun c3 => ?_)
        · replace h := q_t h c3
          refine lv_aload_n hx hb dX9_findOrder_44 rfl (lv_at hl 0 rfl) ?_
          refine lv_iload_n hx hb dX9_findOrder_45 rfl (lv_at hl 3 rfl) ?_
          refine lv_iload_n hx hb dX9_findOrder_46 rfl (lv_at hl 1 rfl) ?_
          obtain ⟨o4, hco4, h⟩ := q_bind h
          refine q_calli hw (va_runV (As := [.int v3, .int v1]) (rest := []) C0 (kX9_looseBy hk hco4 _) (cwV 2 hts gX9_findOrder_X9_looseBy rfl rfl rfl eX9_looseBy ⟨(Nat.le_of_ble_eq_true rfl), (Nat.le_of_ble_eq_true rfl)⟩) ⟨q_blind, q_recv hw (mN_0 hk) (mE_0 hk) rfl, q_pre hw⟩ rfl rfl hl.1 rfl (lv_room (Nat.le_of_ble_eq_true rfl)) dX9_findOrder_47 ⟨Nat.zero_le _, Nat.zero_le _⟩) (fun H locs hw => ?_)
          exact tX9_findOrder_c50 hk C0 hr hlk hrec12 hrec20 v1 v2 v3 o4.1 o4.2 _ _ _ hw (lv_sub hl [0, 1, 2, 3] rfl) h
        · replace h := q_f h c3
          refine lv_iconst (v := (-1 : Int32)) hx hb dX9_findOrder_40 (by decide) ?_
          refine lv_goto (tgt := 50) hx hb dX9_findOrder_41 (by decide) ?_
          exact tX9_findOrder_c50 hk C0 hr hlk hrec12 hrec20 v1 v2 v3 (-1 : Int32) σ _ _ _ hw (lv_sub hl [0, 1, 2, 3] rfl) h
set_option maxHeartbeats 4000000 in
set_option maxRecDepth 100000 in
theorem tX9_findOrder_c12 {k : Nat} (hk : mB N k) (C0 : CallFix p m c cX9_findOrder 5 s args wsX9_findOrder RX9) (hr : meth.sig.returnType = (some .int)) (hlk : meth.locks = false) {out : Int32 × q_M}  : ∀ n : Nat, ∀ (v1 : Int32) (v2 : Int32) (σ : q_M) (H : Heap) (locs : List Loc) (ls : Array Slot), q_H (gM D cI cJ cR ad adK adV N) (q_A (gM D cI cJ cR ad adK adV N) s.heap.size) s σ H locs → lv_has ls 5 [(0, .ref (ad k)), (1, .int v1), (2, .int v2)] → fX9_findOrder_c12 k n v1 v2 σ = some out → W p l e { frames := 5, cells := 0, slots := 0, locals := 129 } s m args below meth c H locs 0 0 (MQ below (q_Ri (gM D cI cJ cR ad adK adV N) (q_A (gM D cI cJ cR ad adK adV N) s.heap.size) out) args s 0 0 (q_A (gM D cI cJ cR ad adK adV N) s.heap.size)) (F0 m 12 ls []) := by
  obtain ⟨hx, hb, hml, hown, hts⟩ := id C0
  intro n
  induction n with
  | zero =>
    intro v1 v2 σ H locs ls  hw hl h
    cases (show (none : Option (Int32 × q_M)) = some out from h)
  | succ n hrec12 =>
    intro v1 v2 σ H locs ls  hw hl h
    replace h : fX9_findOrder_c12b k (fX9_findOrder_c12 k n) v1 v2 σ = some out := h
    unfold fX9_findOrder_c12b at h
    refine lv_iload_n hx hb dX9_findOrder_12 rfl (lv_at hl 2 rfl) ?_
    refine lv_if_eq (tgt := 103) hx hb dX9_findOrder_13 (by decide) (fun c1 => ?_) (fun c1 => ?_)
    · replace h := q_t h c1
      refine lv_iconst (v := (1 : Int32)) hx hb dX9_findOrder_103 (by decide) ?_
      refine lv_aload_n hx hb dX9_findOrder_104 rfl (lv_at hl 0 rfl) ?_
      refine gt_X9_13 C0 hw hk iX9_findOrder_X9 (by decide +kernel) dX9_findOrder_105 ?_
      refine q_ishl (v := (q_sl (1 : Int32) (σ.1 k 13))) C0 dX9_findOrder_108 rfl ?_
      refine lv_iconst (v := (1 : Int32)) hx hb dX9_findOrder_109 (by decide) ?_
      refine lv_isub hx hb dX9_findOrder_110 ?_
      refine lv_iload_n hx hb dX9_findOrder_111 rfl (lv_at hl 1 rfl) ?_
      refine lv_iconst (v := (-1 : Int32)) hx hb dX9_findOrder_112 (by decide) ?_
      refine lv_ixor hx hb dX9_findOrder_113 ?_
      refine lv_iand hx hb dX9_findOrder_114 ?_
      exact q_iret h C0 hr hlk hw dX9_findOrder_115
    · replace h := q_f h c1
      refine lv_iconst (v := (0 : Int32)) hx hb dX9_findOrder_16 (by decide) ?_
      refine lv_istore_n (lv' := [(2, .int (0 : Int32)), (0, .ref (ad k)), (1, .int v1)]) hx hb dX9_findOrder_17 rfl hl (by decide) rfl (fun ls hl => ?_)
      refine lv_iconst (v := (0 : Int32)) hx hb dX9_findOrder_18 (by decide) ?_
      refine lv_istore_n (lv' := [(3, .int (0 : Int32)), (2, .int (0 : Int32)), (0, .ref (ad k)), (1, .int v1)]) hx hb dX9_findOrder_19 rfl hl (by decide) rfl (fun ls hl => ?_)
      exact tX9_findOrder_c20 hk C0 hr hlk hrec12 q_FU v1 (0 : Int32) (0 : Int32) σ _ _ _ hw (lv_sub hl [2, 3, 1, 0] rfl) h
set_option maxHeartbeats 4000000 in
set_option maxRecDepth 100000 in
theorem kX9_findOrder {k : Nat} (hk : mB N k) {σ : q_M} {out : Int32 × q_M} (h : fX9_findOrder k σ = some out) : q_Mi l (gM D cI cJ cR ad adK adV N) yX9_findOrder wsX9_findOrder { frames := 5, cells := 0, slots := 0, locals := 129 } [.ref (ad k)] σ out := by
  refine q_Mi_of (cc := cX9_findOrder) (maxL := 5) (ret := (some .int)) (by decide) rfl (Nat.le_of_ble_eq_true rfl) ?_
  intro p e s m below meth c ls C0 hr hlk hl hw
  obtain ⟨hx, hb, hml, hown, hts⟩ := id C0
  replace hl : lv_has ls 5 [(0, .ref (ad k))] := hl
  unfold fX9_findOrder at h
  refine lv_aload_n hx hb dX9_findOrder_0 rfl (lv_at hl 0 rfl) ?_
  refine gt_X9_15 C0 hw hk iX9_findOrder_X9 (by decide +kernel) dX9_findOrder_1 ?_
  refine lv_istore_n (lv' := [(1, .int (σ.1 k 15)), (0, .ref (ad k))]) hx hb dX9_findOrder_4 rfl hl (by decide) rfl (fun ls hl => ?_)
  refine lv_aload_n hx hb dX9_findOrder_5 rfl (lv_at hl 1 rfl) ?_
  refine lv_iconst (v := (0 : Int32)) hx hb dX9_findOrder_6 (by decide) ?_
  refine pt_X9_31 C0 hw hk iX9_findOrder_X9 (by decide +kernel) dX9_findOrder_7 (fun σ1 H locs e_σ1 hw => ?_)
  replace h := q_let_at e_σ1 h
  refine lv_iconst (v := (1 : Int32)) hx hb dX9_findOrder_10 (by decide) ?_
  refine lv_istore_n (lv' := [(2, .int (1 : Int32)), (1, .int (σ.1 k 15)), (0, .ref (ad k))]) hx hb dX9_findOrder_11 rfl hl (by decide) rfl (fun ls hl => ?_)
  exact tX9_findOrder_c12 hk C0 hr hlk q_FU (σ.1 k 15) (1 : Int32) σ1 _ _ _ hw (lv_sub hl [2, 1, 0] rfl) h
-- X9_order order(II)I
theorem iX9_order_X9 : ∀ w ∈ wsX90, w ∈ wsX9_order := by decide +kernel
theorem eX9_findOrder : yX9_findOrder.cls = RX9 ∧ yX9_findOrder.cls ≠ "java/lang/invoke/MethodHandle" ∧ yX9_findOrder.cls ≠ "java/lang/invoke/VarHandle" ∧ (parseMethodDescriptor yX9_findOrder.desc).map (fun d => d.parameters.length) = some 0 := by decide +kernel
set_option maxHeartbeats 4000000 in
set_option maxRecDepth 100000 in
theorem kX9_order {k : Nat} {p1 : Int32} {p2 : Int32} (hk : mB N k) {σ : q_M} {out : Int32 × q_M} (h : fX9_order k p1 p2 σ = some out) : q_Mi l (gM D cI cJ cR ad adK adV N) yX9_order wsX9_order { frames := 6, cells := 0, slots := 0, locals := 153 } [.ref (ad k), .int p1, .int p2] σ out := by
  refine q_Mi_of (cc := cX9_order) (maxL := 3) (ret := (some .int)) (by decide) rfl (Nat.le_of_ble_eq_true rfl) ?_
  intro p e s m below meth c ls C0 hr hlk hl hw
  obtain ⟨hx, hb, hml, hown, hts⟩ := id C0
  replace hl : lv_has ls 3 [(0, .ref (ad k)), (1, .int p1), (2, .int p2)] := hl
  unfold fX9_order at h
  refine lv_iload_n hx hb dX9_order_0 rfl (lv_at hl 2 rfl) ?_
  refine lv_i2l hx hb dX9_order_1 rfl ?_
  refine lv_lconst (v := (0 : Int64)) hx hb dX9_order_2 (by decide) ?_
  refine lv_lconst (v := (1 : Int64)) hx hb dX9_order_3 (by decide) ?_
  obtain ⟨o1, hco1, h⟩ := q_bind h
  refine q_calli hw (va_runS (As := [.long p2.toInt64, .long (0 : Int64), .long (1 : Int64)]) (rest := []) C0 (kX9_in hco1 _) (va_cwS 3 hts gX9_order_X9_in rfl rfl rfl eX9_in ⟨(Nat.le_of_ble_eq_true rfl), (Nat.le_of_ble_eq_true rfl)⟩) ⟨q_blind, q_pre hw⟩ rfl rfl hl.1 rfl (lv_room (Nat.le_of_ble_eq_true rfl)) dX9_order_4 ⟨Nat.zero_le _, Nat.zero_le _⟩) (fun H locs hw => ?_)
  refine lv_if_ne (tgt := 17) hx hb dX9_order_7 (by decide) (fun c2 => ?_) (fun c2 => ?_)
  · replace h := q_f h c2
    refine lv_aload_n hx hb dX9_order_17 rfl (lv_at hl 0 rfl) ?_
    obtain ⟨o3, hco3, h⟩ := q_bind h
    refine q_calli hw (va_runV (As := []) (rest := []) C0 (kX9_findOrder hk hco3 _) (cwV 0 hts gX9_order_X9_findOrder rfl rfl rfl eX9_findOrder ⟨(Nat.le_of_ble_eq_true rfl), (Nat.le_of_ble_eq_true rfl)⟩) ⟨q_blind, q_recv hw (mN_0 hk) (mE_0 hk) rfl, q_pre hw⟩ rfl rfl hl.1 rfl (lv_room (Nat.le_of_ble_eq_true rfl)) dX9_order_18 ⟨Nat.zero_le _, Nat.zero_le _⟩) (fun H locs hw => ?_)
    refine lv_pop hx hb dX9_order_21 rfl ?_
    refine lv_iload_n hx hb dX9_order_22 rfl (lv_at hl 1 rfl) ?_
    refine lv_i2l hx hb dX9_order_23 rfl ?_
    refine lv_lconst (v := (0 : Int64)) hx hb dX9_order_24 (by decide) ?_
    refine lv_aload_n hx hb dX9_order_25 rfl (lv_at hl 0 rfl) ?_
    refine gt_X9_31 C0 hw hk iX9_order_X9 (by decide +kernel) dX9_order_26 ?_
    refine lv_iconst (v := (1 : Int32)) hx hb dX9_order_29 (by decide) ?_
    refine lv_isub hx hb dX9_order_30 ?_
    refine lv_i2l hx hb dX9_order_31 rfl ?_
    obtain ⟨o4, hco4, h⟩ := q_bind h
    refine q_calli hw (va_runS (As := [.long p1.toInt64, .long (0 : Int64), .long (((o3.2.1 k 31) - (1 : Int32)).toInt64)]) (rest := []) C0 (kX9_in hco4 _) (va_cwS 3 hts gX9_order_X9_in rfl rfl rfl eX9_in ⟨(Nat.le_of_ble_eq_true rfl), (Nat.le_of_ble_eq_true rfl)⟩) ⟨q_blind, q_pre hw⟩ rfl rfl hl.1 rfl (lv_room (Nat.le_of_ble_eq_true rfl)) dX9_order_32 ⟨Nat.zero_le _, Nat.zero_le _⟩) (fun H locs hw => ?_)
    refine lv_if_ne (tgt := 42) hx hb dX9_order_35 (by decide) (fun c5 => ?_) (fun c5 => ?_)
    · replace h := q_f h c5
      refine lv_iload_n hx hb dX9_order_42 rfl (lv_at hl 2 rfl) ?_
      refine lv_if_ne (tgt := 55) hx hb dX9_order_43 (by decide) (fun c6 => ?_) (fun c6 => ?_)
      · replace h := q_f h c6
        refine lv_aload_n hx hb dX9_order_55 rfl (lv_at hl 0 rfl) ?_
        refine gt_X9_30 C0 hw hk iX9_order_X9 (by decide +kernel) dX9_order_56 ?_
        refine lv_iload_n hx hb dX9_order_59 rfl (lv_at hl 1 rfl) ?_
        obtain ⟨b7, h⟩ := q_if h
        refine q_iald (t0 := 0) C0 hw (mN_15 hk) (mE_15 hk) rfl b7 dX9_order_60 ?_
        exact q_iret h C0 hr hlk hw dX9_order_61
      · replace h := q_t h c6
        refine lv_aload_n hx hb dX9_order_46 rfl (lv_at hl 0 rfl) ?_
        refine gt_X9_29 C0 hw hk iX9_order_X9 (by decide +kernel) dX9_order_47 ?_
        refine lv_iload_n hx hb dX9_order_50 rfl (lv_at hl 1 rfl) ?_
        obtain ⟨b8, h⟩ := q_if h
        refine q_iald (t0 := 0) C0 hw (mN_14 hk) (mE_14 hk) rfl b8 dX9_order_51 ?_
        refine lv_goto (tgt := 61) hx hb dX9_order_52 (by decide) ?_
        exact q_iret h C0 hr hlk hw dX9_order_61
    · replace h := q_t h c5
      refine lv_iconst (v := (-1 : Int32)) hx hb dX9_order_38 (by decide) ?_
      refine lv_goto (tgt := 61) hx hb dX9_order_39 (by decide) ?_
      exact q_iret h C0 hr hlk hw dX9_order_61
  · replace h := q_t h c2
    refine lv_aload_n hx hb dX9_order_10 rfl (lv_at hl 0 rfl) ?_
    refine lv_bipush (v := (-2 : Int32)) hx hb dX9_order_11 (by decide) ?_
    obtain ⟨o9, hco9, h⟩ := q_bind h
    refine q_calli hw (va_runV (As := [.int (-2 : Int32)]) (rest := []) C0 (kX9_refuse hk hco9 _) (cwV 1 hts gX9_order_X9_refuse rfl rfl rfl eX9_refuse ⟨(Nat.le_of_ble_eq_true rfl), (Nat.le_of_ble_eq_true rfl)⟩) ⟨q_blind, q_recv hw (mN_0 hk) (mE_0 hk) rfl, q_pre hw⟩ rfl rfl hl.1 rfl (lv_room (Nat.le_of_ble_eq_true rfl)) dX9_order_13 ⟨Nat.zero_le _, Nat.zero_le _⟩) (fun H locs hw => ?_)
    exact q_iret h C0 hr hlk hw dX9_order_16
-- X9_ring ring()I
set_option maxHeartbeats 4000000 in
set_option maxRecDepth 100000 in
theorem kX9_ring {k : Nat} (hk : mB N k) {σ : q_M} {out : Int32 × q_M} (h : fX9_ring k σ = some out) : q_Mi l (gM D cI cJ cR ad adK adV N) yX9_ring wsX9_ring { frames := 6, cells := 0, slots := 0, locals := 153 } [.ref (ad k)] σ out := by
  refine q_Mi_of (cc := cX9_ring) (maxL := 1) (ret := (some .int)) (by decide) rfl (Nat.le_of_ble_eq_true rfl) ?_
  intro p e s m below meth c ls C0 hr hlk hl hw
  obtain ⟨hx, hb, hml, hown, hts⟩ := id C0
  replace hl : lv_has ls 1 [(0, .ref (ad k))] := hl
  unfold fX9_ring at h
  refine lv_aload_n hx hb dX9_ring_0 rfl (lv_at hl 0 rfl) ?_
  obtain ⟨o1, hco1, h⟩ := q_bind h
  refine q_calli hw (va_runV (As := []) (rest := []) C0 (kX9_findOrder hk hco1 _) (cwV 0 hts gX9_ring_X9_findOrder rfl rfl rfl eX9_findOrder ⟨(Nat.le_of_ble_eq_true rfl), (Nat.le_of_ble_eq_true rfl)⟩) ⟨q_blind, q_recv hw (mN_0 hk) (mE_0 hk) rfl, q_pre hw⟩ rfl rfl hl.1 rfl (lv_room (Nat.le_of_ble_eq_true rfl)) dX9_ring_1 ⟨Nat.zero_le _, Nat.zero_le _⟩) (fun H locs hw => ?_)
  exact q_iret h C0 hr hlk hw dX9_ring_4
-- X9_free free(I)I
theorem iX9_free_X9 : ∀ w ∈ wsX90, w ∈ wsX9_free := by decide +kernel
set_option maxHeartbeats 4000000 in
set_option maxRecDepth 100000 in
theorem kX9_free {k : Nat} {p1 : Int32} (hk : mB N k) {σ : q_M} {out : Int32 × q_M} (h : fX9_free k p1 σ = some out) : q_Mi l (gM D cI cJ cR ad adK adV N) yX9_free wsX9_free { frames := 3, cells := 0, slots := 0, locals := 73 } [.ref (ad k), .int p1] σ out := by
  refine q_Mi_of (cc := cX9_free) (maxL := 2) (ret := (some .int)) (by decide) rfl (Nat.le_of_ble_eq_true rfl) ?_
  intro p e s m below meth c ls C0 hr hlk hl hw
  obtain ⟨hx, hb, hml, hown, hts⟩ := id C0
  replace hl : lv_has ls 2 [(0, .ref (ad k)), (1, .int p1)] := hl
  unfold fX9_free at h
  refine lv_aload_n hx hb dX9_free_0 rfl (lv_at hl 0 rfl) ?_
  refine lv_iload_n hx hb dX9_free_1 rfl (lv_at hl 1 rfl) ?_
  obtain ⟨o1, hco1, h⟩ := q_bind h
  refine q_calli hw (va_runV (As := [.int p1]) (rest := []) C0 (kX9_isCube hk hco1 _) (cwV 1 hts gX9_free_X9_isCube rfl rfl rfl eX9_isCube ⟨(Nat.le_of_ble_eq_true rfl), (Nat.le_of_ble_eq_true rfl)⟩) ⟨q_blind, q_recv hw (mN_0 hk) (mE_0 hk) rfl, q_pre hw⟩ rfl rfl hl.1 rfl (lv_room (Nat.le_of_ble_eq_true rfl)) dX9_free_2 ⟨Nat.zero_le _, Nat.zero_le _⟩) (fun H locs hw => ?_)
  refine lv_if_ne (tgt := 15) hx hb dX9_free_5 (by decide) (fun c2 => ?_) (fun c2 => ?_)
  · replace h := q_f h c2
    refine lv_aload_n hx hb dX9_free_15 rfl (lv_at hl 0 rfl) ?_
    refine gt_X9_12 C0 hw hk iX9_free_X9 (by decide +kernel) dX9_free_16 ?_
    refine lv_iload_n hx hb dX9_free_19 rfl (lv_at hl 1 rfl) ?_
    obtain ⟨o3, hco3, h⟩ := q_bind h
    refine q_calli hw (va_runS (As := [.long (o1.2.2 k 12), .int p1]) (rest := []) C0 (kX9_has hco3 _) (va_cwS 2 hts gX9_free_X9_has rfl rfl rfl eX9_has ⟨(Nat.le_of_ble_eq_true rfl), (Nat.le_of_ble_eq_true rfl)⟩) ⟨q_blind, q_pre hw⟩ rfl rfl hl.1 rfl (lv_room (Nat.le_of_ble_eq_true rfl)) dX9_free_20 ⟨Nat.zero_le _, Nat.zero_le _⟩) (fun H locs hw => ?_)
    refine lv_if_eq (tgt := 35) hx hb dX9_free_23 (by decide) (fun c4 => ?_) (fun c4 => ?_)
    · replace h := q_t h c4
      refine lv_aload_n hx hb dX9_free_35 rfl (lv_at hl 0 rfl) ?_
      refine lv_iload_n hx hb dX9_free_36 rfl (lv_at hl 1 rfl) ?_
      refine lv_aload_n hx hb dX9_free_37 rfl (lv_at hl 0 rfl) ?_
      refine gt_X9_12 C0 hw hk iX9_free_X9 (by decide +kernel) dX9_free_38 ?_
      obtain ⟨o5, hco5, h⟩ := q_bind h
      refine q_calli hw (va_runV (As := [.int p1, .long (o3.2.2 k 12)]) (rest := []) C0 (kX9_freeOf hk hco5 _) (cwV 2 hts gX9_free_X9_freeOf rfl rfl rfl eX9_freeOf ⟨(Nat.le_of_ble_eq_true rfl), (Nat.le_of_ble_eq_true rfl)⟩) ⟨q_blind, q_recv hw (mN_0 hk) (mE_0 hk) rfl, q_pre hw⟩ rfl rfl hl.1 rfl (lv_room (Nat.le_of_ble_eq_true rfl)) dX9_free_41 ⟨Nat.zero_le _, Nat.zero_le _⟩) (fun H locs hw => ?_)
      exact q_iret h C0 hr hlk hw dX9_free_44
    · replace h := q_f h c4
      refine lv_aload_n hx hb dX9_free_26 rfl (lv_at hl 0 rfl) ?_
      refine lv_bipush (v := (-5 : Int32)) hx hb dX9_free_27 (by decide) ?_
      obtain ⟨o6, hco6, h⟩ := q_bind h
      refine q_calli hw (va_runV (As := [.int (-5 : Int32)]) (rest := []) C0 (kX9_refuse hk hco6 _) (cwV 1 hts gX9_free_X9_refuse rfl rfl rfl eX9_refuse ⟨(Nat.le_of_ble_eq_true rfl), (Nat.le_of_ble_eq_true rfl)⟩) ⟨q_blind, q_recv hw (mN_0 hk) (mE_0 hk) rfl, q_pre hw⟩ rfl rfl hl.1 rfl (lv_room (Nat.le_of_ble_eq_true rfl)) dX9_free_29 ⟨Nat.zero_le _, Nat.zero_le _⟩) (fun H locs hw => ?_)
      refine lv_goto (tgt := 44) hx hb dX9_free_32 (by decide) ?_
      exact q_iret h C0 hr hlk hw dX9_free_44
  · replace h := q_t h c2
    refine lv_aload_n hx hb dX9_free_8 rfl (lv_at hl 0 rfl) ?_
    refine lv_bipush (v := (-2 : Int32)) hx hb dX9_free_9 (by decide) ?_
    obtain ⟨o7, hco7, h⟩ := q_bind h
    refine q_calli hw (va_runV (As := [.int (-2 : Int32)]) (rest := []) C0 (kX9_refuse hk hco7 _) (cwV 1 hts gX9_free_X9_refuse rfl rfl rfl eX9_refuse ⟨(Nat.le_of_ble_eq_true rfl), (Nat.le_of_ble_eq_true rfl)⟩) ⟨q_blind, q_recv hw (mN_0 hk) (mE_0 hk) rfl, q_pre hw⟩ rfl rfl hl.1 rfl (lv_room (Nat.le_of_ble_eq_true rfl)) dX9_free_11 ⟨Nat.zero_le _, Nat.zero_le _⟩) (fun H locs hw => ?_)
    exact q_iret h C0 hr hlk hw dX9_free_14
-- X9_doServe doServe(I)Z
theorem iX9_doServe_X9 : ∀ w ∈ wsX90, w ∈ wsX9_doServe := by decide +kernel
set_option maxHeartbeats 4000000 in
set_option maxRecDepth 100000 in
theorem tX9_doServe_c2 {k : Nat} {p1 : Int32} (hk : mB N k) (C0 : CallFix p m c cX9_doServe 3 s args wsX9_doServe RX9) (hr : meth.sig.returnType = (some .boolean)) (hlk : meth.locks = false) {out : Int32 × q_M}  : ∀ n : Nat, ∀ (v2 : Int32) (σ : q_M) (H : Heap) (locs : List Loc) (ls : Array Slot), q_H (gM D cI cJ cR ad adK adV N) (q_A (gM D cI cJ cR ad adK adV N) s.heap.size) s σ H locs → lv_has ls 3 [(0, .ref (ad k)), (1, .int p1), (2, .int v2)] → fX9_doServe_c2 k p1 n v2 σ = some out → W p l e { frames := 1, cells := 0, slots := 0, locals := 20 } s m args below meth c H locs 0 0 (MQ below (q_Ri (gM D cI cJ cR ad adK adV N) (q_A (gM D cI cJ cR ad adK adV N) s.heap.size) out) args s 0 0 (q_A (gM D cI cJ cR ad adK adV N) s.heap.size)) (F0 m 2 ls []) := by
  obtain ⟨hx, hb, hml, hown, hts⟩ := id C0
  intro n
  induction n with
  | zero =>
    intro v2 σ H locs ls  hw hl h
    cases (show (none : Option (Int32 × q_M)) = some out from h)
  | succ n hrec2 =>
    intro v2 σ H locs ls  hw hl h
    replace h : fX9_doServe_c2b k p1 (fX9_doServe_c2 k p1 n) v2 σ = some out := h
    unfold fX9_doServe_c2b at h
    refine lv_iload_n hx hb dX9_doServe_2 rfl (lv_at hl 2 rfl) ?_
    refine lv_aload_n hx hb dX9_doServe_3 rfl (lv_at hl 0 rfl) ?_
    obtain ⟨o1, hco1, h⟩ := q_bind h
    refine q_calli hw (va_runV (As := []) (rest := [.int v2]) C0 (kX9_many hk hco1 _) (cwV 0 hts gX9_doServe_X9_many rfl rfl rfl eX9_many ⟨(Nat.le_of_ble_eq_true rfl), (Nat.le_of_ble_eq_true rfl)⟩) ⟨q_blind, q_recv hw (mN_0 hk) (mE_0 hk) rfl, q_pre hw⟩ rfl rfl hl.1 rfl (lv_room (Nat.le_of_ble_eq_true rfl)) dX9_doServe_4 ⟨Nat.zero_le _, Nat.zero_le _⟩) (fun H locs hw => ?_)
    refine lv_icmp_ge (tgt := 39) hx hb dX9_doServe_7 (by decide) (fun c2 => ?_) (fun c2 => ?_)
    · replace h := q_t h c2
      refine lv_iconst (v := (1 : Int32)) hx hb dX9_doServe_39 (by decide) ?_
      exact q_zret h C0 hr rfl hlk hw dX9_doServe_40
    · replace h := q_f h c2
      refine lv_aload_n hx hb dX9_doServe_10 rfl (lv_at hl 0 rfl) ?_
      refine gt_X9_32 C0 hw hk iX9_doServe_X9 (by decide +kernel) dX9_doServe_11 ?_
      refine lv_iload_n hx hb dX9_doServe_14 rfl (lv_at hl 2 rfl) ?_
      obtain ⟨b3, h⟩ := q_if h
      refine q_iald (t0 := 0) C0 hw (mN_16 hk) (mE_16 hk) rfl b3 dX9_doServe_15 ?_
      refine lv_iconst (v := (-1 : Int32)) hx hb dX9_doServe_16 (by decide) ?_
      refine lv_icmp_eq (tgt := 33) hx hb dX9_doServe_17 (by decide) (fun c4 => ?_) (fun c4 => ?_)
      · replace h := q_t h c4
        refine lv_iinc (v := (v2 + (1 : Int32))) (lv' := [(2, .int (v2 + (1 : Int32))), (0, .ref (ad k)), (1, .int p1)]) hx hb dX9_doServe_33 hl (k := 2) rfl rfl (by decide) rfl (fun ls hl => ?_)
        refine lv_goto (tgt := 2) hx hb dX9_doServe_36 (by decide) ?_
        exact hrec2 (v2 + (1 : Int32)) o1.2 _ _ _ hw (lv_sub hl [1, 2, 0] rfl) h
      · replace h := q_f h c4
        refine lv_aload_n hx hb dX9_doServe_20 rfl (lv_at hl 0 rfl) ?_
        refine gt_X9_32 C0 hw hk iX9_doServe_X9 (by decide +kernel) dX9_doServe_21 ?_
        refine lv_iload_n hx hb dX9_doServe_24 rfl (lv_at hl 2 rfl) ?_
        obtain ⟨b5, h⟩ := q_if h
        refine q_iald (t0 := 0) C0 hw (mN_16 hk) (mE_16 hk) rfl b5 dX9_doServe_25 ?_
        refine lv_iload_n hx hb dX9_doServe_26 rfl (lv_at hl 1 rfl) ?_
        refine lv_iand hx hb dX9_doServe_27 ?_
        refine lv_if_ne (tgt := 33) hx hb dX9_doServe_28 (by decide) (fun c6 => ?_) (fun c6 => ?_)
        · replace h := q_f h c6
          refine lv_iinc (v := (v2 + (1 : Int32))) (lv' := [(2, .int (v2 + (1 : Int32))), (0, .ref (ad k)), (1, .int p1)]) hx hb dX9_doServe_33 hl (k := 2) rfl rfl (by decide) rfl (fun ls hl => ?_)
          refine lv_goto (tgt := 2) hx hb dX9_doServe_36 (by decide) ?_
          exact hrec2 (v2 + (1 : Int32)) o1.2 _ _ _ hw (lv_sub hl [1, 2, 0] rfl) h
        · replace h := q_t h c6
          refine lv_iconst (v := (0 : Int32)) hx hb dX9_doServe_31 (by decide) ?_
          exact q_zret h C0 hr rfl hlk hw dX9_doServe_32
set_option maxHeartbeats 4000000 in
set_option maxRecDepth 100000 in
theorem kX9_doServe {k : Nat} {p1 : Int32} (hk : mB N k) {σ : q_M} {out : Int32 × q_M} (h : fX9_doServe k p1 σ = some out) : q_Mi l (gM D cI cJ cR ad adK adV N) yX9_doServe wsX9_doServe { frames := 1, cells := 0, slots := 0, locals := 20 } [.ref (ad k), .int p1] σ out := by
  refine q_Mi_of (cc := cX9_doServe) (maxL := 3) (ret := (some .boolean)) (by decide) rfl (Nat.le_of_ble_eq_true rfl) ?_
  intro p e s m below meth c ls C0 hr hlk hl hw
  obtain ⟨hx, hb, hml, hown, hts⟩ := id C0
  replace hl : lv_has ls 3 [(0, .ref (ad k)), (1, .int p1)] := hl
  unfold fX9_doServe at h
  refine lv_iconst (v := (0 : Int32)) hx hb dX9_doServe_0 (by decide) ?_
  refine lv_istore_n (lv' := [(2, .int (0 : Int32)), (0, .ref (ad k)), (1, .int p1)]) hx hb dX9_doServe_1 rfl hl (by decide) rfl (fun ls hl => ?_)
  exact tX9_doServe_c2 hk C0 hr hlk q_FU (0 : Int32) σ _ _ _ hw (lv_sub hl [1, 2, 0] rfl) h
end
