section
variable {p : Program} {l : Launch} {e : Env} {s : State} {m : MethodId} {args : Array Value} {below : List Frame} {meth : Method} {c : Code} {D : va_G} {cI cJ cS : ClassId} {ad adK adV : Nat → Nat}
-- X7_sortOf sortOf(I)I
set_option maxHeartbeats 4000000 in
set_option maxRecDepth 100000 in
theorem tX7_sortOf_c14 {p0 : Int32}  (C0 : CallFix p m c cX7_sortOf 1 s args wsX7_sortOf RX7) (hr : meth.sig.returnType = (some .int)) (hlk : meth.locks = false) {out : Int32 × q_M}  : ∀  (σ : q_M) (H : Heap) (locs : List Loc) (ls : Array Slot), q_H (gX D cI cJ cS ad adK adV) (q_A (gX D cI cJ cS ad adK adV) s.heap.size) s σ H locs → lv_has ls 1 [(0, .int p0)] → fX7_sortOf_c14 p0  σ = some out → W p l e { frames := 0, cells := 0, slots := 0, locals := 0 } s m args below meth c H locs 0 0 (MQ below (q_Ri (gX D cI cJ cS ad adK adV) (q_A (gX D cI cJ cS ad adK adV) s.heap.size) out) args s 0 0 (q_A (gX D cI cJ cS ad adK adV) s.heap.size)) (F0 m 14 ls []) := by
  obtain ⟨hx, hb, hml, hown, hts⟩ := id C0
  intro  σ H locs ls  hw hl h
  unfold fX7_sortOf_c14 at h
  refine lv_iload_n hx hb dX7_sortOf_14 rfl (lv_at hl 0 rfl) ?_
  refine lv_bipush (v := (48 : Int32)) hx hb dX7_sortOf_15 (by decide) ?_
  refine lv_icmp_lt (tgt := 28) hx hb dX7_sortOf_17 (by decide) (fun c1 => ?_) (fun c1 => ?_)
  · replace h := q_t h c1
    refine lv_iload_n hx hb dX7_sortOf_28 rfl (lv_at hl 0 rfl) ?_
    refine lv_bipush (v := (59 : Int32)) hx hb dX7_sortOf_29 (by decide) ?_
    refine lv_icmp_ne (tgt := 38) hx hb dX7_sortOf_31 (by decide) (fun c2 => ?_) (fun c2 => ?_)
    · replace h := q_f h c2
      refine lv_iconst (v := (4 : Int32)) hx hb dX7_sortOf_38 (by decide) ?_
      exact q_iret h C0 hr hlk hw dX7_sortOf_39
    · replace h := q_t h c2
      refine lv_iconst (v := (3 : Int32)) hx hb dX7_sortOf_34 (by decide) ?_
      refine lv_goto (tgt := 39) hx hb dX7_sortOf_35 (by decide) ?_
      exact q_iret h C0 hr hlk hw dX7_sortOf_39
  · replace h := q_f h c1
    refine lv_iload_n hx hb dX7_sortOf_20 rfl (lv_at hl 0 rfl) ?_
    refine lv_bipush (v := (57 : Int32)) hx hb dX7_sortOf_21 (by decide) ?_
    refine lv_icmp_gt (tgt := 28) hx hb dX7_sortOf_23 (by decide) (fun c3 => ?_) (fun c3 => ?_)
    · replace h := q_t h c3
      refine lv_iload_n hx hb dX7_sortOf_28 rfl (lv_at hl 0 rfl) ?_
      refine lv_bipush (v := (59 : Int32)) hx hb dX7_sortOf_29 (by decide) ?_
      refine lv_icmp_ne (tgt := 38) hx hb dX7_sortOf_31 (by decide) (fun c4 => ?_) (fun c4 => ?_)
      · replace h := q_f h c4
        refine lv_iconst (v := (4 : Int32)) hx hb dX7_sortOf_38 (by decide) ?_
        exact q_iret h C0 hr hlk hw dX7_sortOf_39
      · replace h := q_t h c4
        refine lv_iconst (v := (3 : Int32)) hx hb dX7_sortOf_34 (by decide) ?_
        refine lv_goto (tgt := 39) hx hb dX7_sortOf_35 (by decide) ?_
        exact q_iret h C0 hr hlk hw dX7_sortOf_39
    · replace h := q_f h c3
      refine lv_iconst (v := (2 : Int32)) hx hb dX7_sortOf_26 (by decide) ?_
      exact q_iret h C0 hr hlk hw dX7_sortOf_27
set_option maxHeartbeats 4000000 in
set_option maxRecDepth 100000 in
theorem kX7_sortOf {p0 : Int32}  {σ : q_M} {out : Int32 × q_M} (h : fX7_sortOf p0 σ = some out) : q_Mi l (gX D cI cJ cS ad adK adV) yX7_sortOf wsX7_sortOf { frames := 0, cells := 0, slots := 0, locals := 0 } [.int p0] σ out := by
  refine q_Mi_of (cc := cX7_sortOf) (maxL := 1) (ret := (some .int)) (by decide) rfl (Nat.le_of_ble_eq_true rfl) ?_
  intro p e s m below meth c ls C0 hr hlk hl hw
  obtain ⟨hx, hb, hml, hown, hts⟩ := id C0
  replace hl : lv_has ls 1 [(0, .int p0)] := hl
  unfold fX7_sortOf at h
  refine lv_iload_n hx hb dX7_sortOf_0 rfl (lv_at hl 0 rfl) ?_
  refine lv_bipush (v := (97 : Int32)) hx hb dX7_sortOf_1 (by decide) ?_
  refine lv_icmp_lt (tgt := 14) hx hb dX7_sortOf_3 (by decide) (fun c1 => ?_) (fun c1 => ?_)
  · replace h := q_t h c1
    exact tX7_sortOf_c14 C0 hr hlk σ _ _ _ hw (lv_sub hl [0] rfl) h
  · replace h := q_f h c1
    refine lv_iload_n hx hb dX7_sortOf_6 rfl (lv_at hl 0 rfl) ?_
    refine lv_bipush (v := (122 : Int32)) hx hb dX7_sortOf_7 (by decide) ?_
    refine lv_icmp_gt (tgt := 14) hx hb dX7_sortOf_9 (by decide) (fun c2 => ?_) (fun c2 => ?_)
    · replace h := q_t h c2
      exact tX7_sortOf_c14 C0 hr hlk σ _ _ _ hw (lv_sub hl [0] rfl) h
    · replace h := q_f h c2
      refine lv_iconst (v := (1 : Int32)) hx hb dX7_sortOf_12 (by decide) ?_
      exact q_iret h C0 hr hlk hw dX7_sortOf_13
-- X7_advance advance()V
theorem iX7_advance_X7 : ∀ w ∈ wsX70, w ∈ wsX7_advance := by decide +kernel
theorem eX7_sortOf : yX7_sortOf.cls ≠ "java/lang/invoke/MethodHandle" ∧ yX7_sortOf.cls ≠ "java/lang/invoke/VarHandle" ∧ (parseMethodDescriptor yX7_sortOf.desc).map (fun d => d.parameters.length) = some 1 := by decide +kernel
set_option maxHeartbeats 4000000 in
set_option maxRecDepth 100000 in
theorem tX7_advance_c132 {rec105 : q_M → Option (q_M)}  (C0 : CallFix p m c cX7_advance 1 s args wsX7_advance RX7) (hr : meth.sig.returnType = none) (hlk : meth.locks = false) {out : q_M} (hrec105 : ∀  (σ : q_M) (H : Heap) (locs : List Loc) (ls : Array Slot), q_H (gX D cI cJ cS ad adK adV) (q_A (gX D cI cJ cS ad adK adV) s.heap.size) s σ H locs → lv_has ls 1 [(0, .ref (ad 23))] → rec105  σ = some out → W p l e { frames := 1, cells := 0, slots := 0, locals := 20 } s m args below meth c H locs 0 0 (MQ below (q_Rv (gX D cI cJ cS ad adK adV) (q_A (gX D cI cJ cS ad adK adV) s.heap.size) out) args s 0 0 (q_A (gX D cI cJ cS ad adK adV) s.heap.size)) (F0 m 105 ls [])) : ∀  (σ : q_M) (H : Heap) (locs : List Loc) (ls : Array Slot), q_H (gX D cI cJ cS ad adK adV) (q_A (gX D cI cJ cS ad adK adV) s.heap.size) s σ H locs → lv_has ls 1 [(0, .ref (ad 23))] → fX7_advance_c132 rec105  σ = some out → W p l e { frames := 1, cells := 0, slots := 0, locals := 20 } s m args below meth c H locs 0 0 (MQ below (q_Rv (gX D cI cJ cS ad adK adV) (q_A (gX D cI cJ cS ad adK adV) s.heap.size) out) args s 0 0 (q_A (gX D cI cJ cS ad adK adV) s.heap.size)) (F0 m 132 ls []) := by
  obtain ⟨hx, hb, hml, hown, hts⟩ := id C0
  intro  σ H locs ls  hw hl h
  unfold fX7_advance_c132 at h
  refine lv_aload_n hx hb dX7_advance_132 rfl (lv_at hl 0 rfl) ?_
  refine gt_X7_4 C0 hw xF_23 iX7_advance_X7 (by decide +kernel) dX7_advance_133 ?_
  refine lv_aload_n hx hb dX7_advance_136 rfl (lv_at hl 0 rfl) ?_
  refine gt_X7_3 C0 hw xF_23 iX7_advance_X7 (by decide +kernel) dX7_advance_137 ?_
  obtain ⟨b1, h⟩ := q_if h
  refine q_iald (t0 := 0) C0 hw (xN_10 xF_24) (xE_10 xF_24) rfl b1 dX7_advance_140 ?_
  obtain ⟨o2, hco2, h⟩ := q_bind h
  refine q_calli hw (va_runS (As := [.int (σ.1 24 (σ.1 23 3).toNatClampNeg)]) (rest := []) C0 (kX7_sortOf hco2 _) (va_cwS 1 hts gX7_advance_X7_sortOf rfl rfl rfl eX7_sortOf ⟨(Nat.le_of_ble_eq_true rfl), (Nat.le_of_ble_eq_true rfl)⟩) ⟨q_blind, q_pre hw⟩ rfl rfl hl.1 rfl (lv_room (Nat.le_of_ble_eq_true rfl)) dX7_advance_141 ⟨Nat.zero_le _, Nat.zero_le _⟩) (fun H locs hw => ?_)
  refine lv_aload_n hx hb dX7_advance_144 rfl (lv_at hl 0 rfl) ?_
  refine gt_X7_2 C0 hw xF_23 iX7_advance_X7 (by decide +kernel) dX7_advance_145 ?_
  refine lv_icmp_ne (tgt := 164) hx hb dX7_advance_148 (by decide) (fun c3 => ?_) (fun c3 => ?_)
  · replace h := q_f h c3
    exact q_vret h C0 hr hlk hw dX7_advance_164
  · replace h := q_t h c3
    refine lv_aload_n hx hb dX7_advance_151 rfl (lv_at hl 0 rfl) ?_
    refine lv_dup hx hb dX7_advance_152 rfl ?_
    refine gt_X7_3 C0 hw xF_23 iX7_advance_X7 (by decide +kernel) dX7_advance_153 ?_
    refine lv_iconst (v := (1 : Int32)) hx hb dX7_advance_156 (by decide) ?_
    refine lv_iadd hx hb dX7_advance_157 ?_
    refine pt_X7_3 C0 hw xF_23 iX7_advance_X7 (by decide +kernel) dX7_advance_158 (fun σ4 H locs e_σ4 hw => ?_)
    replace h := q_let_at e_σ4 h
    refine lv_goto (tgt := 105) hx hb dX7_advance_161 (by decide) ?_
    exact hrec105 σ4 _ _ _ hw (lv_sub hl [0] rfl) h
set_option maxHeartbeats 4000000 in
set_option maxRecDepth 100000 in
theorem tX7_advance_c105   (C0 : CallFix p m c cX7_advance 1 s args wsX7_advance RX7) (hr : meth.sig.returnType = none) (hlk : meth.locks = false) {out : q_M}  : ∀ n : Nat, ∀  (σ : q_M) (H : Heap) (locs : List Loc) (ls : Array Slot), q_H (gX D cI cJ cS ad adK adV) (q_A (gX D cI cJ cS ad adK adV) s.heap.size) s σ H locs → lv_has ls 1 [(0, .ref (ad 23))] → fX7_advance_c105  n  σ = some out → W p l e { frames := 1, cells := 0, slots := 0, locals := 20 } s m args below meth c H locs 0 0 (MQ below (q_Rv (gX D cI cJ cS ad adK adV) (q_A (gX D cI cJ cS ad adK adV) s.heap.size) out) args s 0 0 (q_A (gX D cI cJ cS ad adK adV) s.heap.size)) (F0 m 105 ls []) := by
  obtain ⟨hx, hb, hml, hown, hts⟩ := id C0
  intro n
  induction n with
  | zero =>
    intro  σ H locs ls  hw hl h
    cases (show (none : Option (q_M)) = some out from h)
  | succ n hrec105 =>
    intro  σ H locs ls  hw hl h
    replace h : fX7_advance_c105b  (fX7_advance_c105  n)  σ = some out := h
    unfold fX7_advance_c105b at h
    refine lv_aload_n hx hb dX7_advance_105 rfl (lv_at hl 0 rfl) ?_
    refine gt_X7_3 C0 hw xF_23 iX7_advance_X7 (by decide +kernel) dX7_advance_106 ?_
    refine lv_aload_n hx hb dX7_advance_109 rfl (lv_at hl 0 rfl) ?_
    refine gt_X7_0 C0 hw xF_23 iX7_advance_X7 (by decide +kernel) dX7_advance_110 ?_
    refine lv_icmp_ge (tgt := 164) hx hb dX7_advance_113 (by decide) (fun c1 => ?_) (fun c1 => ?_)
    · replace h := q_t h c1
      exact q_vret h C0 hr hlk hw dX7_advance_164
    · replace h := q_f h c1
      refine lv_aload_n hx hb dX7_advance_116 rfl (lv_at hl 0 rfl) ?_
      refine gt_X7_2 C0 hw xF_23 iX7_advance_X7 (by decide +kernel) dX7_advance_117 ?_
      refine lv_iconst (v := (1 : Int32)) hx hb dX7_advance_120 (by decide) ?_
      refine lv_icmp_eq (tgt := 132) hx hb dX7_advance_121 (by decide) (fun c2 => ?_) (fun c2 => ?_)
      · replace h := q_t h c2
        exact tX7_advance_c132 C0 hr hlk hrec105 σ _ _ _ hw (lv_sub hl [0] rfl) h
      · replace h := q_f h c2
        refine lv_aload_n hx hb dX7_advance_124 rfl (lv_at hl 0 rfl) ?_
        refine gt_X7_2 C0 hw xF_23 iX7_advance_X7 (by decide +kernel) dX7_advance_125 ?_
        refine lv_iconst (v := (2 : Int32)) hx hb dX7_advance_128 (by decide) ?_
        refine lv_icmp_ne (tgt := 164) hx hb dX7_advance_129 (by decide) (fun c3 => ?_) (fun c3 => ?_)
        · replace h := q_f h c3
          exact q_vret h C0 hr hlk hw dX7_advance_164
        · replace h := q_t h c3
          exact tX7_advance_c132 C0 hr hlk hrec105 σ _ _ _ hw (lv_sub hl [0] rfl) h
set_option maxHeartbeats 4000000 in
set_option maxRecDepth 100000 in
theorem tX7_advance_c74   (C0 : CallFix p m c cX7_advance 1 s args wsX7_advance RX7) (hr : meth.sig.returnType = none) (hlk : meth.locks = false) {out : q_M}  : ∀ (s0 : Int32) (σ : q_M) (H : Heap) (locs : List Loc) (ls : Array Slot), q_H (gX D cI cJ cS ad adK adV) (q_A (gX D cI cJ cS ad adK adV) s.heap.size) s σ H locs → lv_has ls 1 [(0, .ref (ad 23))] → fX7_advance_c74  s0 σ = some out → W p l e { frames := 1, cells := 0, slots := 0, locals := 20 } s m args below meth c H locs 0 0 (MQ below (q_Rv (gX D cI cJ cS ad adK adV) (q_A (gX D cI cJ cS ad adK adV) s.heap.size) out) args s 0 0 (q_A (gX D cI cJ cS ad adK adV) s.heap.size)) (F0 m 74 ls [.int s0, .ref (ad 23)]) := by
  obtain ⟨hx, hb, hml, hown, hts⟩ := id C0
  intro s0 σ H locs ls  hw hl h
  unfold fX7_advance_c74 at h
  refine pt_X7_2 C0 hw xF_23 iX7_advance_X7 (by decide +kernel) dX7_advance_74 (fun σ1 H locs e_σ1 hw => ?_)
  replace h := q_let_at e_σ1 h
  refine lv_aload_n hx hb dX7_advance_77 rfl (lv_at hl 0 rfl) ?_
  refine lv_aload_n hx hb dX7_advance_78 rfl (lv_at hl 0 rfl) ?_
  refine gt_X7_1 C0 hw xF_23 iX7_advance_X7 (by decide +kernel) dX7_advance_79 ?_
  refine lv_aload_n hx hb dX7_advance_82 rfl (lv_at hl 0 rfl) ?_
  refine gt_X7_0 C0 hw xF_23 iX7_advance_X7 (by decide +kernel) dX7_advance_83 ?_
  refine lv_icmp_ge (tgt := 98) hx hb dX7_advance_86 (by decide) (fun c2 => ?_) (fun c2 => ?_)
  · replace h := q_t h c2
    refine lv_aload_n hx hb dX7_advance_98 rfl (lv_at hl 0 rfl) ?_
    refine gt_X7_1 C0 hw xF_23 iX7_advance_X7 (by decide +kernel) dX7_advance_99 ?_
    refine pt_X7_3 C0 hw xF_23 iX7_advance_X7 (by decide +kernel) dX7_advance_102 (fun σ3 H locs e_σ3 hw => ?_)
    replace h := q_let_at e_σ3 h
    exact tX7_advance_c105 C0 hr hlk q_FU σ3 _ _ _ hw (lv_sub hl [0] rfl) h
  · replace h := q_f h c2
    refine lv_aload_n hx hb dX7_advance_89 rfl (lv_at hl 0 rfl) ?_
    refine gt_X7_1 C0 hw xF_23 iX7_advance_X7 (by decide +kernel) dX7_advance_90 ?_
    refine lv_iconst (v := (1 : Int32)) hx hb dX7_advance_93 (by decide) ?_
    refine lv_iadd hx hb dX7_advance_94 ?_
    refine lv_goto (tgt := 102) hx hb dX7_advance_95 (by decide) ?_
    refine pt_X7_3 C0 hw xF_23 iX7_advance_X7 (by decide +kernel) dX7_advance_102 (fun σ4 H locs e_σ4 hw => ?_)
    replace h := q_let_at e_σ4 h
    exact tX7_advance_c105 C0 hr hlk q_FU σ4 _ _ _ hw (lv_sub hl [0] rfl) h
set_option maxHeartbeats 4000000 in
set_option maxRecDepth 100000 in
theorem tX7_advance_c46   (C0 : CallFix p m c cX7_advance 1 s args wsX7_advance RX7) (hr : meth.sig.returnType = none) (hlk : meth.locks = false) {out : q_M}  : ∀  (σ : q_M) (H : Heap) (locs : List Loc) (ls : Array Slot), q_H (gX D cI cJ cS ad adK adV) (q_A (gX D cI cJ cS ad adK adV) s.heap.size) s σ H locs → lv_has ls 1 [(0, .ref (ad 23))] → fX7_advance_c46   σ = some out → W p l e { frames := 1, cells := 0, slots := 0, locals := 20 } s m args below meth c H locs 0 0 (MQ below (q_Rv (gX D cI cJ cS ad adK adV) (q_A (gX D cI cJ cS ad adK adV) s.heap.size) out) args s 0 0 (q_A (gX D cI cJ cS ad adK adV) s.heap.size)) (F0 m 46 ls []) := by
  obtain ⟨hx, hb, hml, hown, hts⟩ := id C0
  intro  σ H locs ls  hw hl h
  unfold fX7_advance_c46 at h
  refine lv_aload_n hx hb dX7_advance_46 rfl (lv_at hl 0 rfl) ?_
  refine lv_aload_n hx hb dX7_advance_47 rfl (lv_at hl 0 rfl) ?_
  refine gt_X7_1 C0 hw xF_23 iX7_advance_X7 (by decide +kernel) dX7_advance_48 ?_
  refine lv_aload_n hx hb dX7_advance_51 rfl (lv_at hl 0 rfl) ?_
  refine gt_X7_0 C0 hw xF_23 iX7_advance_X7 (by decide +kernel) dX7_advance_52 ?_
  refine lv_icmp_ge (tgt := 73) hx hb dX7_advance_55 (by decide) (fun c1 => ?_) (fun c1 => ?_)
  · replace h := q_t h c1
    refine lv_iconst (v := (0 : Int32)) hx hb dX7_advance_73 (by decide) ?_
    exact tX7_advance_c74 C0 hr hlk (0 : Int32) σ _ _ _ hw (lv_sub hl [0] rfl) h
  · replace h := q_f h c1
    refine lv_aload_n hx hb dX7_advance_58 rfl (lv_at hl 0 rfl) ?_
    refine gt_X7_4 C0 hw xF_23 iX7_advance_X7 (by decide +kernel) dX7_advance_59 ?_
    refine lv_aload_n hx hb dX7_advance_62 rfl (lv_at hl 0 rfl) ?_
    refine gt_X7_1 C0 hw xF_23 iX7_advance_X7 (by decide +kernel) dX7_advance_63 ?_
    obtain ⟨b2, h⟩ := q_if h
    refine q_iald (t0 := 0) C0 hw (xN_10 xF_24) (xE_10 xF_24) rfl b2 dX7_advance_66 ?_
    obtain ⟨o3, hco3, h⟩ := q_bind h
    refine q_calli hw (va_runS (As := [.int (σ.1 24 (σ.1 23 1).toNatClampNeg)]) (rest := [.ref (ad 23)]) C0 (kX7_sortOf hco3 _) (va_cwS 1 hts gX7_advance_X7_sortOf rfl rfl rfl eX7_sortOf ⟨(Nat.le_of_ble_eq_true rfl), (Nat.le_of_ble_eq_true rfl)⟩) ⟨q_blind, q_pre hw⟩ rfl rfl hl.1 rfl (lv_room (Nat.le_of_ble_eq_true rfl)) dX7_advance_67 ⟨Nat.zero_le _, Nat.zero_le _⟩) (fun H locs hw => ?_)
    refine lv_goto (tgt := 74) hx hb dX7_advance_70 (by decide) ?_
    exact tX7_advance_c74 C0 hr hlk o3.1 o3.2 _ _ _ hw (lv_sub hl [0] rfl) h
set_option maxHeartbeats 4000000 in
set_option maxRecDepth 100000 in
theorem tX7_advance_c8   (C0 : CallFix p m c cX7_advance 1 s args wsX7_advance RX7) (hr : meth.sig.returnType = none) (hlk : meth.locks = false) {out : q_M}  : ∀ n : Nat, ∀  (σ : q_M) (H : Heap) (locs : List Loc) (ls : Array Slot), q_H (gX D cI cJ cS ad adK adV) (q_A (gX D cI cJ cS ad adK adV) s.heap.size) s σ H locs → lv_has ls 1 [(0, .ref (ad 23))] → fX7_advance_c8  n  σ = some out → W p l e { frames := 1, cells := 0, slots := 0, locals := 20 } s m args below meth c H locs 0 0 (MQ below (q_Rv (gX D cI cJ cS ad adK adV) (q_A (gX D cI cJ cS ad adK adV) s.heap.size) out) args s 0 0 (q_A (gX D cI cJ cS ad adK adV) s.heap.size)) (F0 m 8 ls []) := by
  obtain ⟨hx, hb, hml, hown, hts⟩ := id C0
  intro n
  induction n with
  | zero =>
    intro  σ H locs ls  hw hl h
    cases (show (none : Option (q_M)) = some out from h)
  | succ n hrec8 =>
    intro  σ H locs ls  hw hl h
    replace h : fX7_advance_c8b  (fX7_advance_c8  n)  σ = some out := h
    unfold fX7_advance_c8b at h
    refine lv_aload_n hx hb dX7_advance_8 rfl (lv_at hl 0 rfl) ?_
    refine gt_X7_1 C0 hw xF_23 iX7_advance_X7 (by decide +kernel) dX7_advance_9 ?_
    refine lv_aload_n hx hb dX7_advance_12 rfl (lv_at hl 0 rfl) ?_
    refine gt_X7_0 C0 hw xF_23 iX7_advance_X7 (by decide +kernel) dX7_advance_13 ?_
    refine lv_icmp_ge (tgt := 46) hx hb dX7_advance_16 (by decide) (fun c1 => ?_) (fun c1 => ?_)
    · replace h := q_t h c1
      exact tX7_advance_c46 C0 hr hlk σ _ _ _ hw (lv_sub hl [0] rfl) h
    · replace h := q_f h c1
      refine lv_aload_n hx hb dX7_advance_19 rfl (lv_at hl 0 rfl) ?_
      refine gt_X7_4 C0 hw xF_23 iX7_advance_X7 (by decide +kernel) dX7_advance_20 ?_
      refine lv_aload_n hx hb dX7_advance_23 rfl (lv_at hl 0 rfl) ?_
      refine gt_X7_1 C0 hw xF_23 iX7_advance_X7 (by decide +kernel) dX7_advance_24 ?_
      obtain ⟨b2, h⟩ := q_if h
      refine q_iald (t0 := 0) C0 hw (xN_10 xF_24) (xE_10 xF_24) rfl b2 dX7_advance_27 ?_
      refine lv_bipush (v := (32 : Int32)) hx hb dX7_advance_28 (by decide) ?_
      refine lv_icmp_ne (tgt := 46) hx hb dX7_advance_30 (by decide) (fun c3 => ?_) (fun c3 => ?_)
      · replace h := q_f h c3
        exact tX7_advance_c46 C0 hr hlk σ _ _ _ hw (lv_sub hl [0] rfl) h
      · replace h := q_t h c3
        refine lv_aload_n hx hb dX7_advance_33 rfl (lv_at hl 0 rfl) ?_
        refine lv_dup hx hb dX7_advance_34 rfl ?_
        refine gt_X7_1 C0 hw xF_23 iX7_advance_X7 (by decide +kernel) dX7_advance_35 ?_
        refine lv_iconst (v := (1 : Int32)) hx hb dX7_advance_38 (by decide) ?_
        refine lv_iadd hx hb dX7_advance_39 ?_
        refine pt_X7_1 C0 hw xF_23 iX7_advance_X7 (by decide +kernel) dX7_advance_40 (fun σ4 H locs e_σ4 hw => ?_)
        replace h := q_let_at e_σ4 h
        refine lv_goto (tgt := 8) hx hb dX7_advance_43 (by decide) ?_
        exact hrec8 σ4 _ _ _ hw (lv_sub hl [0] rfl) h
set_option maxHeartbeats 4000000 in
set_option maxRecDepth 100000 in
theorem kX7_advance   {σ : q_M} {out : q_M} (h : fX7_advance  σ = some out) : q_Mv l (gX D cI cJ cS ad adK adV) yX7_advance wsX7_advance { frames := 1, cells := 0, slots := 0, locals := 20 } [.ref (ad 23)] σ out := by
  refine q_Mv_of (cc := cX7_advance) (maxL := 1) (ret := none) (by decide) rfl (Nat.le_of_ble_eq_true rfl) ?_
  intro p e s m below meth c ls C0 hr hlk hl hw
  obtain ⟨hx, hb, hml, hown, hts⟩ := id C0
  replace hl : lv_has ls 1 [(0, .ref (ad 23))] := hl
  unfold fX7_advance at h
  refine lv_aload_n hx hb dX7_advance_0 rfl (lv_at hl 0 rfl) ?_
  refine lv_aload_n hx hb dX7_advance_1 rfl (lv_at hl 0 rfl) ?_
  refine gt_X7_3 C0 hw xF_23 iX7_advance_X7 (by decide +kernel) dX7_advance_2 ?_
  refine pt_X7_1 C0 hw xF_23 iX7_advance_X7 (by decide +kernel) dX7_advance_5 (fun σ1 H locs e_σ1 hw => ?_)
  replace h := q_let_at e_σ1 h
  exact tX7_advance_c8 C0 hr hlk q_FU σ1 _ _ _ hw (lv_sub hl [0] rfl) h
-- X7_number number()I
theorem iX7_number_X7 : ∀ w ∈ wsX70, w ∈ wsX7_number := by decide +kernel
set_option maxHeartbeats 4000000 in
set_option maxRecDepth 100000 in
theorem tX7_number_c30   (C0 : CallFix p m c cX7_number 3 s args wsX7_number RX7) (hr : meth.sig.returnType = (some .int)) (hlk : meth.locks = false) {out : Int32 × q_M}  : ∀ n : Nat, ∀ (v1 : Int32) (v2 : Int32) (σ : q_M) (H : Heap) (locs : List Loc) (ls : Array Slot), q_H (gX D cI cJ cS ad adK adV) (q_A (gX D cI cJ cS ad adK adV) s.heap.size) s σ H locs → lv_has ls 3 [(0, .ref (ad 23)), (1, .int v1), (2, .int v2)] → fX7_number_c30  n v1 v2 σ = some out → W p l e { frames := 0, cells := 0, slots := 0, locals := 0 } s m args below meth c H locs 0 0 (MQ below (q_Ri (gX D cI cJ cS ad adK adV) (q_A (gX D cI cJ cS ad adK adV) s.heap.size) out) args s 0 0 (q_A (gX D cI cJ cS ad adK adV) s.heap.size)) (F0 m 30 ls []) := by
  obtain ⟨hx, hb, hml, hown, hts⟩ := id C0
  intro n
  induction n with
  | zero =>
    intro v1 v2 σ H locs ls  hw hl h
    cases (show (none : Option (Int32 × q_M)) = some out from h)
  | succ n hrec30 =>
    intro v1 v2 σ H locs ls  hw hl h
    replace h : fX7_number_c30b  (fX7_number_c30  n) v1 v2 σ = some out := h
    unfold fX7_number_c30b at h
    refine lv_iload_n hx hb dX7_number_30 rfl (lv_at hl 2 rfl) ?_
    refine lv_aload_n hx hb dX7_number_31 rfl (lv_at hl 0 rfl) ?_
    refine gt_X7_3 C0 hw xF_23 iX7_number_X7 (by decide +kernel) dX7_number_32 ?_
    refine lv_icmp_ge (tgt := 59) hx hb dX7_number_35 (by decide) (fun c1 => ?_) (fun c1 => ?_)
    · replace h := q_t h c1
      refine lv_iload_n hx hb dX7_number_59 rfl (lv_at hl 1 rfl) ?_
      exact q_iret h C0 hr hlk hw dX7_number_60
    · replace h := q_f h c1
      refine lv_bipush (v := (10 : Int32)) hx hb dX7_number_38 (by decide) ?_
      refine lv_iload_n hx hb dX7_number_40 rfl (lv_at hl 1 rfl) ?_
      refine lv_imul hx hb dX7_number_41 ?_
      refine lv_aload_n hx hb dX7_number_42 rfl (lv_at hl 0 rfl) ?_
      refine gt_X7_4 C0 hw xF_23 iX7_number_X7 (by decide +kernel) dX7_number_43 ?_
      refine lv_iload_n hx hb dX7_number_46 rfl (lv_at hl 2 rfl) ?_
      obtain ⟨b2, h⟩ := q_if h
      refine q_iald (t0 := 0) C0 hw (xN_10 xF_24) (xE_10 xF_24) rfl b2 dX7_number_47 ?_
      refine lv_iadd hx hb dX7_number_48 ?_
      refine lv_bipush (v := (48 : Int32)) hx hb dX7_number_49 (by decide) ?_
      refine lv_isub hx hb dX7_number_51 ?_
      refine lv_topi (fun x3 e_x3 => ?_)
      replace h := q_let_at e_x3 h
      refine lv_istore_n (lv' := [(1, .int x3), (0, .ref (ad 23)), (2, .int v2)]) hx hb dX7_number_52 rfl hl (by decide) rfl (fun ls hl => ?_)
      refine lv_iinc (v := (v2 + (1 : Int32))) (lv' := [(2, .int (v2 + (1 : Int32))), (1, .int x3), (0, .ref (ad 23))]) hx hb dX7_number_53 hl (k := 2) rfl rfl (by decide) rfl (fun ls hl => ?_)
      refine lv_goto (tgt := 30) hx hb dX7_number_56 (by decide) ?_
      exact hrec30 x3 (v2 + (1 : Int32)) σ _ _ _ hw (lv_sub hl [2, 1, 0] rfl) h
set_option maxHeartbeats 4000000 in
set_option maxRecDepth 100000 in
theorem kX7_number   {σ : q_M} {out : Int32 × q_M} (h : fX7_number  σ = some out) : q_Mi l (gX D cI cJ cS ad adK adV) yX7_number wsX7_number { frames := 0, cells := 0, slots := 0, locals := 0 } [.ref (ad 23)] σ out := by
  refine q_Mi_of (cc := cX7_number) (maxL := 3) (ret := (some .int)) (by decide) rfl (Nat.le_of_ble_eq_true rfl) ?_
  intro p e s m below meth c ls C0 hr hlk hl hw
  obtain ⟨hx, hb, hml, hown, hts⟩ := id C0
  replace hl : lv_has ls 3 [(0, .ref (ad 23))] := hl
  unfold fX7_number at h
  refine lv_aload_n hx hb dX7_number_0 rfl (lv_at hl 0 rfl) ?_
  refine gt_X7_2 C0 hw xF_23 iX7_number_X7 (by decide +kernel) dX7_number_1 ?_
  refine lv_iconst (v := (2 : Int32)) hx hb dX7_number_4 (by decide) ?_
  refine lv_icmp_ne (tgt := 21) hx hb dX7_number_5 (by decide) (fun c1 => ?_) (fun c1 => ?_)
  · replace h := q_f h c1
    refine lv_iconst (v := (-1 : Int32)) hx hb dX7_number_21 (by decide) ?_
    exact q_iret h C0 hr hlk hw dX7_number_22
  · replace h := q_t h c1
    refine lv_aload_n hx hb dX7_number_8 rfl (lv_at hl 0 rfl) ?_
    refine gt_X7_3 C0 hw xF_23 iX7_number_X7 (by decide +kernel) dX7_number_9 ?_
    refine lv_aload_n hx hb dX7_number_12 rfl (lv_at hl 0 rfl) ?_
    refine gt_X7_1 C0 hw xF_23 iX7_number_X7 (by decide +kernel) dX7_number_13 ?_
    refine lv_isub hx hb dX7_number_16 ?_
    refine lv_iconst (v := (3 : Int32)) hx hb dX7_number_17 (by decide) ?_
    refine lv_icmp_le (tgt := 23) hx hb dX7_number_18 (by decide) (fun c2 => ?_) (fun c2 => ?_)
    · replace h := q_t h c2
      refine lv_iconst (v := (0 : Int32)) hx hb dX7_number_23 (by decide) ?_
      refine lv_istore_n (lv' := [(1, .int (0 : Int32)), (0, .ref (ad 23))]) hx hb dX7_number_24 rfl hl (by decide) rfl (fun ls hl => ?_)
      refine lv_aload_n hx hb dX7_number_25 rfl (lv_at hl 1 rfl) ?_
      refine gt_X7_1 C0 hw xF_23 iX7_number_X7 (by decide +kernel) dX7_number_26 ?_
      refine lv_istore_n (lv' := [(2, .int (σ.1 23 1)), (1, .int (0 : Int32)), (0, .ref (ad 23))]) hx hb dX7_number_29 rfl hl (by decide) rfl (fun ls hl => ?_)
      exact tX7_number_c30 C0 hr hlk q_FU (0 : Int32) (σ.1 23 1) σ _ _ _ hw (lv_sub hl [2, 1, 0] rfl) h
    · replace h := q_f h c2
      refine lv_iconst (v := (-1 : Int32)) hx hb dX7_number_21 (by decide) ?_
      exact q_iret h C0 hr hlk hw dX7_number_22
-- X7_isWord isWord(Ljava/lang/String;)Z
theorem iX7_isWord_X7 : ∀ w ∈ wsX70, w ∈ wsX7_isWord := by decide +kernel
theorem eJ0_charAt_5068e : yJ0_charAt_5068e.cls = RJ0 ∧ yJ0_charAt_5068e.cls ≠ "java/lang/invoke/MethodHandle" ∧ yJ0_charAt_5068e.cls ≠ "java/lang/invoke/VarHandle" ∧ (parseMethodDescriptor yJ0_charAt_5068e.desc).map (fun d => d.parameters.length) = some 1 := by decide +kernel
theorem eJ0_length_8abf5 : yJ0_length_8abf5.cls = RJ0 ∧ yJ0_length_8abf5.cls ≠ "java/lang/invoke/MethodHandle" ∧ yJ0_length_8abf5.cls ≠ "java/lang/invoke/VarHandle" ∧ (parseMethodDescriptor yJ0_length_8abf5.desc).map (fun d => d.parameters.length) = some 0 := by decide +kernel
set_option maxHeartbeats 4000000 in
set_option maxRecDepth 100000 in
theorem tX7_isWord_c28 {w : Nat} (hw0 : w < 9) (C0 : CallFix p m c cX7_isWord 3 s args wsX7_isWord RX7) (hr : meth.sig.returnType = (some .boolean)) (hlk : meth.locks = false) {out : Int32 × q_M}  : ∀ n : Nat, ∀ (v2 : Int32) (σ : q_M) (H : Heap) (locs : List Loc) (ls : Array Slot), q_H (gX D cI cJ cS ad adK adV) (q_A (gX D cI cJ cS ad adK adV) s.heap.size) s σ H locs → lv_has ls 3 [(0, .ref (ad 23)), (1, .ref (adK w)), (2, .int v2)] → fX7_isWord_c28 w n v2 σ = some out → W p l e { frames := 4, cells := 0, slots := 0, locals := 85 } s m args below meth c H locs 0 0 (MQ below (q_Ri (gX D cI cJ cS ad adK adV) (q_A (gX D cI cJ cS ad adK adV) s.heap.size) out) args s 0 0 (q_A (gX D cI cJ cS ad adK adV) s.heap.size)) (F0 m 28 ls []) := by
  obtain ⟨hx, hb, hml, hown, hts⟩ := id C0
  intro n
  induction n with
  | zero =>
    intro v2 σ H locs ls  hw hl h
    cases (show (none : Option (Int32 × q_M)) = some out from h)
  | succ n hrec28 =>
    intro v2 σ H locs ls  hw hl h
    replace h : fX7_isWord_c28b w (fX7_isWord_c28 w n) v2 σ = some out := h
    unfold fX7_isWord_c28b at h
    refine lv_iload_n hx hb dX7_isWord_28 rfl (lv_at hl 2 rfl) ?_
    refine lv_aload_n hx hb dX7_isWord_29 rfl (lv_at hl 1 rfl) ?_
    obtain ⟨o1, hco1, h⟩ := q_bind h
    refine q_calli hw (va_runV (As := []) (rest := [.int v2]) C0 (kJ0_length_8abf5 hw0 hco1 _) (cwV 0 hts gX7_isWord_J0_length_8abf5 rfl rfl rfl eJ0_length_8abf5 ⟨(Nat.le_of_ble_eq_true rfl), (Nat.le_of_ble_eq_true rfl)⟩) ⟨q_blind, vk_recv hw.2.2.2.2.2.2.1 hw0 hw.2.2.2.1, q_pre hw⟩ rfl rfl hl.1 rfl (lv_room (Nat.le_of_ble_eq_true rfl)) dX7_isWord_30 ⟨Nat.zero_le _, Nat.zero_le _⟩) (fun H locs hw => ?_)
    refine lv_icmp_ge (tgt := 63) hx hb dX7_isWord_33 (by decide) (fun c2 => ?_) (fun c2 => ?_)
    · replace h := q_t h c2
      refine lv_iconst (v := (1 : Int32)) hx hb dX7_isWord_63 (by decide) ?_
      exact q_zret h C0 hr rfl hlk hw dX7_isWord_64
    · replace h := q_f h c2
      refine lv_aload_n hx hb dX7_isWord_36 rfl (lv_at hl 0 rfl) ?_
      refine gt_X7_4 C0 hw xF_23 iX7_isWord_X7 (by decide +kernel) dX7_isWord_37 ?_
      refine lv_aload_n hx hb dX7_isWord_40 rfl (lv_at hl 0 rfl) ?_
      refine gt_X7_1 C0 hw xF_23 iX7_isWord_X7 (by decide +kernel) dX7_isWord_41 ?_
      refine lv_iload_n hx hb dX7_isWord_44 rfl (lv_at hl 2 rfl) ?_
      refine lv_iadd hx hb dX7_isWord_45 ?_
      obtain ⟨b3, h⟩ := q_if h
      refine q_iald (t0 := 0) C0 hw (xN_10 xF_24) (xE_10 xF_24) rfl b3 dX7_isWord_46 ?_
      refine lv_aload_n hx hb dX7_isWord_47 rfl (lv_at hl 1 rfl) ?_
      refine lv_iload_n hx hb dX7_isWord_48 rfl (lv_at hl 2 rfl) ?_
      obtain ⟨o4, hco4, h⟩ := q_bind h
      refine q_calli hw (va_runV (As := [.int v2]) (rest := [.int (o1.2.1 24 ((o1.2.1 23 1) + v2).toNatClampNeg)]) C0 (kJ0_charAt_5068e hw0 hco4 _) (cwV 1 hts gX7_isWord_J0_charAt_5068e rfl rfl rfl eJ0_charAt_5068e ⟨(Nat.le_of_ble_eq_true rfl), (Nat.le_of_ble_eq_true rfl)⟩) ⟨q_blind, vk_recv hw.2.2.2.2.2.2.1 hw0 hw.2.2.2.1, q_pre hw⟩ rfl rfl hl.1 rfl (lv_room (Nat.le_of_ble_eq_true rfl)) dX7_isWord_49 ⟨Nat.zero_le _, Nat.zero_le _⟩) (fun H locs hw => ?_)
      refine lv_icmp_eq (tgt := 57) hx hb dX7_isWord_52 (by decide) (fun c5 => ?_) (fun c5 => ?_)
      · replace h := q_t h c5
        refine lv_iinc (v := (v2 + (1 : Int32))) (lv' := [(2, .int (v2 + (1 : Int32))), (0, .ref (ad 23)), (1, .ref (adK w))]) hx hb dX7_isWord_57 hl (k := 2) rfl rfl (by decide) rfl (fun ls hl => ?_)
        refine lv_goto (tgt := 28) hx hb dX7_isWord_60 (by decide) ?_
        exact hrec28 (v2 + (1 : Int32)) o4.2 _ _ _ hw (lv_sub hl [1, 2, 0] rfl) h
      · replace h := q_f h c5
        refine lv_iconst (v := (0 : Int32)) hx hb dX7_isWord_55 (by decide) ?_
        exact q_zret h C0 hr rfl hlk hw dX7_isWord_56
set_option maxHeartbeats 4000000 in
set_option maxRecDepth 100000 in
theorem kX7_isWord {w : Nat} (hw0 : w < 9) {σ : q_M} {out : Int32 × q_M} (h : fX7_isWord w σ = some out) : q_Mi l (gX D cI cJ cS ad adK adV) yX7_isWord wsX7_isWord { frames := 4, cells := 0, slots := 0, locals := 85 } [.ref (ad 23), .ref (adK w)] σ out := by
  refine q_Mi_of (cc := cX7_isWord) (maxL := 3) (ret := (some .boolean)) (by decide) rfl (Nat.le_of_ble_eq_true rfl) ?_
  intro p e s m below meth c ls C0 hr hlk hl hw
  obtain ⟨hx, hb, hml, hown, hts⟩ := id C0
  replace hl : lv_has ls 3 [(0, .ref (ad 23)), (1, .ref (adK w))] := hl
  unfold fX7_isWord at h
  refine lv_aload_n hx hb dX7_isWord_0 rfl (lv_at hl 0 rfl) ?_
  refine gt_X7_2 C0 hw xF_23 iX7_isWord_X7 (by decide +kernel) dX7_isWord_1 ?_
  refine lv_iconst (v := (1 : Int32)) hx hb dX7_isWord_4 (by decide) ?_
  refine lv_icmp_ne (tgt := 24) hx hb dX7_isWord_5 (by decide) (fun c1 => ?_) (fun c1 => ?_)
  · replace h := q_f h c1
    refine lv_iconst (v := (0 : Int32)) hx hb dX7_isWord_24 (by decide) ?_
    exact q_zret h C0 hr rfl hlk hw dX7_isWord_25
  · replace h := q_t h c1
    refine lv_aload_n hx hb dX7_isWord_8 rfl (lv_at hl 0 rfl) ?_
    refine gt_X7_3 C0 hw xF_23 iX7_isWord_X7 (by decide +kernel) dX7_isWord_9 ?_
    refine lv_aload_n hx hb dX7_isWord_12 rfl (lv_at hl 0 rfl) ?_
    refine gt_X7_1 C0 hw xF_23 iX7_isWord_X7 (by decide +kernel) dX7_isWord_13 ?_
    refine lv_isub hx hb dX7_isWord_16 ?_
    refine lv_aload_n hx hb dX7_isWord_17 rfl (lv_at hl 1 rfl) ?_
    obtain ⟨o2, hco2, h⟩ := q_bind h
    refine q_calli hw (va_runV (As := []) (rest := [.int ((σ.1 23 3) - (σ.1 23 1))]) C0 (kJ0_length_8abf5 hw0 hco2 _) (cwV 0 hts gX7_isWord_J0_length_8abf5 rfl rfl rfl eJ0_length_8abf5 ⟨(Nat.le_of_ble_eq_true rfl), (Nat.le_of_ble_eq_true rfl)⟩) ⟨q_blind, vk_recv hw.2.2.2.2.2.2.1 hw0 hw.2.2.2.1, q_pre hw⟩ rfl rfl hl.1 rfl (lv_room (Nat.le_of_ble_eq_true rfl)) dX7_isWord_18 ⟨Nat.zero_le _, Nat.zero_le _⟩) (fun H locs hw => ?_)
    refine lv_icmp_eq (tgt := 26) hx hb dX7_isWord_21 (by decide) (fun c3 => ?_) (fun c3 => ?_)
    · replace h := q_t h c3
      refine lv_iconst (v := (0 : Int32)) hx hb dX7_isWord_26 (by decide) ?_
      refine lv_istore_n (lv' := [(2, .int (0 : Int32)), (0, .ref (ad 23)), (1, .ref (adK w))]) hx hb dX7_isWord_27 rfl hl (by decide) rfl (fun ls hl => ?_)
      exact tX7_isWord_c28 hw0 C0 hr hlk q_FU (0 : Int32) o2.2 _ _ _ hw (lv_sub hl [1, 2, 0] rfl) h
    · replace h := q_f h c3
      refine lv_iconst (v := (0 : Int32)) hx hb dX7_isWord_24 (by decide) ?_
      exact q_zret h C0 hr rfl hlk hw dX7_isWord_25
-- X7_rewind rewind()V
theorem iX7_rewind_X7 : ∀ w ∈ wsX70, w ∈ wsX7_rewind := by decide +kernel
theorem eX7_advance : yX7_advance.cls = RX7 ∧ yX7_advance.cls ≠ "java/lang/invoke/MethodHandle" ∧ yX7_advance.cls ≠ "java/lang/invoke/VarHandle" ∧ (parseMethodDescriptor yX7_advance.desc).map (fun d => d.parameters.length) = some 0 := by decide +kernel
set_option maxHeartbeats 4000000 in
set_option maxRecDepth 100000 in
theorem kX7_rewind   {σ : q_M} {out : q_M} (h : fX7_rewind  σ = some out) : q_Mv l (gX D cI cJ cS ad adK adV) yX7_rewind wsX7_rewind { frames := 2, cells := 0, slots := 0, locals := 40 } [.ref (ad 23)] σ out := by
  refine q_Mv_of (cc := cX7_rewind) (maxL := 1) (ret := none) (by decide) rfl (Nat.le_of_ble_eq_true rfl) ?_
  intro p e s m below meth c ls C0 hr hlk hl hw
  obtain ⟨hx, hb, hml, hown, hts⟩ := id C0
  replace hl : lv_has ls 1 [(0, .ref (ad 23))] := hl
  unfold fX7_rewind at h
  refine lv_aload_n hx hb dX7_rewind_0 rfl (lv_at hl 0 rfl) ?_
  refine lv_iconst (v := (0 : Int32)) hx hb dX7_rewind_1 (by decide) ?_
  refine pt_X7_3 C0 hw xF_23 iX7_rewind_X7 (by decide +kernel) dX7_rewind_2 (fun σ1 H locs e_σ1 hw => ?_)
  replace h := q_let_at e_σ1 h
  refine lv_aload_n hx hb dX7_rewind_5 rfl (lv_at hl 0 rfl) ?_
  obtain ⟨o2, hco2, h⟩ := q_bind h
  refine q_callv hw (va_runV (As := []) (rest := []) C0 (kX7_advance hco2 _) (cwV 0 hts gX7_rewind_X7_advance rfl rfl rfl eX7_advance ⟨(Nat.le_of_ble_eq_true rfl), (Nat.le_of_ble_eq_true rfl)⟩) ⟨q_blind, q_recv hw (xN_9 xF_23) (xE_9 xF_23) rfl, q_pre hw⟩ rfl rfl hl.1 rfl (lv_room (Nat.le_of_ble_eq_true rfl)) dX7_rewind_6 ⟨Nat.zero_le _, Nat.zero_le _⟩) (fun H locs hw => ?_)
  exact q_vret h C0 hr hlk hw dX7_rewind_9
-- X7_add add(I)V
theorem iX7_add_X7 : ∀ w ∈ wsX70, w ∈ wsX7_add := by decide +kernel
set_option maxHeartbeats 4000000 in
set_option maxRecDepth 100000 in
theorem kX7_add {p1 : Int32}  {σ : q_M} {out : q_M} (h : fX7_add p1 σ = some out) : q_Mv l (gX D cI cJ cS ad adK adV) yX7_add wsX7_add { frames := 0, cells := 0, slots := 0, locals := 0 } [.ref (ad 23), .int p1] σ out := by
  refine q_Mv_of (cc := cX7_add) (maxL := 2) (ret := none) (by decide) rfl (Nat.le_of_ble_eq_true rfl) ?_
  intro p e s m below meth c ls C0 hr hlk hl hw
  obtain ⟨hx, hb, hml, hown, hts⟩ := id C0
  replace hl : lv_has ls 2 [(0, .ref (ad 23)), (1, .int p1)] := hl
  unfold fX7_add at h
  refine lv_aload_n hx hb dX7_add_0 rfl (lv_at hl 0 rfl) ?_
  refine gt_X7_0 C0 hw xF_23 iX7_add_X7 (by decide +kernel) dX7_add_1 ?_
  refine lv_sipush (v := (250 : Int32)) hx hb dX7_add_4 (by decide) ?_
  refine lv_icmp_ge (tgt := 30) hx hb dX7_add_7 (by decide) (fun c1 => ?_) (fun c1 => ?_)
  · replace h := q_t h c1
    exact q_vret h C0 hr hlk hw dX7_add_30
  · replace h := q_f h c1
    refine lv_aload_n hx hb dX7_add_10 rfl (lv_at hl 0 rfl) ?_
    refine gt_X7_4 C0 hw xF_23 iX7_add_X7 (by decide +kernel) dX7_add_11 ?_
    refine lv_aload_n hx hb dX7_add_14 rfl (lv_at hl 0 rfl) ?_
    refine gt_X7_0 C0 hw xF_23 iX7_add_X7 (by decide +kernel) dX7_add_15 ?_
    refine lv_iload_n hx hb dX7_add_18 rfl (lv_at hl 1 rfl) ?_
    obtain ⟨b2, h⟩ := q_if h
    refine q_iast (t0 := 0) C0 hw (xN_10 xF_24) (xE_10 xF_24) rfl b2 dX7_add_19 (fun σ3 H locs e_σ3 hw => ?_)
    replace h := q_let_at e_σ3 h
    refine lv_aload_n hx hb dX7_add_20 rfl (lv_at hl 0 rfl) ?_
    refine lv_dup hx hb dX7_add_21 rfl ?_
    refine gt_X7_0 C0 hw xF_23 iX7_add_X7 (by decide +kernel) dX7_add_22 ?_
    refine lv_iconst (v := (1 : Int32)) hx hb dX7_add_25 (by decide) ?_
    refine lv_iadd hx hb dX7_add_26 ?_
    refine pt_X7_0 C0 hw xF_23 iX7_add_X7 (by decide +kernel) dX7_add_27 (fun σ4 H locs e_σ4 hw => ?_)
    replace h := q_let_at e_σ4 h
    exact q_vret h C0 hr hlk hw dX7_add_30
end
