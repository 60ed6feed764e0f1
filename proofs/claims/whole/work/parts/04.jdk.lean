section
variable {p : Program} {l : Launch} {e : Env} {s : State} {m : MethodId} {args : Array Value} {below : List Frame} {meth : Method} {c : Code} {g : q_G} {cA : ClassId} {t0 : Nat} {ad : Nat → Nat}
-- J13_bitCount_95d88 bitCount(J)I
set_option maxHeartbeats 4000000 in
set_option maxRecDepth 100000 in
theorem kJ13_bitCount_95d88 {p0 : Int64}  {σ : q_M} {out : Int32 × q_M} (h : fJ13_bitCount_95d88 p0 σ = some out) : q_Mi l (g) yJ13_bitCount_95d88 wsJ13_bitCount_95d88 { frames := 0, cells := 0, slots := 0, locals := 0 } [.long p0] σ out := by
  refine q_Mi_of (cc := cJ13_bitCount_95d88) (maxL := 2) (ret := (some .int)) (by decide) rfl (Nat.le_of_ble_eq_true rfl) ?_
  intro p e s m below meth c ls C0 hr hlk hl hw
  obtain ⟨hx, hb, hml, hown, hts⟩ := id C0
  replace hl : lv_has ls 2 [(0, .long p0)] := hl
  unfold fJ13_bitCount_95d88 at h
  refine lv_lload_n hx hb dJ13_bitCount_95d88_0 rfl (lv_at hl 0 rfl) ?_
  refine lv_lload_n hx hb dJ13_bitCount_95d88_1 rfl (lv_at hl 0 rfl) ?_
  refine lv_iconst (v := (1 : Int32)) hx hb dJ13_bitCount_95d88_2 (by decide) ?_
  refine lv_lushr (v := (q_ushr p0 (1 : Int32))) hx hb dJ13_bitCount_95d88_3 rfl ?_
  refine lv_ldc2 (v := (6148914691236517205 : Int64)) hx hb hown (hts (.constantLong RJ13 314 (6148914691236517205)) (by decide +kernel)) dJ13_bitCount_95d88_4 ?_
  refine lv_land hx hb dJ13_bitCount_95d88_7 ?_
  refine lv_lsub hx hb dJ13_bitCount_95d88_8 ?_
  refine lv_topl (fun x1 e_x1 => ?_)
  replace h := q_let_at e_x1 h
  refine lv_lstore_n (lv' := [(0, .long x1)]) hx hb dJ13_bitCount_95d88_9 rfl hl (by decide) rfl (fun ls hl => ?_)
  refine lv_lload_n hx hb dJ13_bitCount_95d88_10 rfl (lv_at hl 0 rfl) ?_
  refine lv_ldc2 (v := (3689348814741910323 : Int64)) hx hb hown (hts (.constantLong RJ13 316 (3689348814741910323)) (by decide +kernel)) dJ13_bitCount_95d88_11 ?_
  refine lv_land hx hb dJ13_bitCount_95d88_14 ?_
  refine lv_lload_n hx hb dJ13_bitCount_95d88_15 rfl (lv_at hl 0 rfl) ?_
  refine lv_iconst (v := (2 : Int32)) hx hb dJ13_bitCount_95d88_16 (by decide) ?_
  refine lv_lushr (v := (q_ushr x1 (2 : Int32))) hx hb dJ13_bitCount_95d88_17 rfl ?_
  refine lv_ldc2 (v := (3689348814741910323 : Int64)) hx hb hown (hts (.constantLong RJ13 316 (3689348814741910323)) (by decide +kernel)) dJ13_bitCount_95d88_18 ?_
  refine lv_land hx hb dJ13_bitCount_95d88_21 ?_
  refine lv_ladd hx hb dJ13_bitCount_95d88_22 ?_
  refine lv_topl (fun x2 e_x2 => ?_)
  replace h := q_let_at e_x2 h
  refine lv_lstore_n (lv' := [(0, .long x2)]) hx hb dJ13_bitCount_95d88_23 rfl hl (by decide) rfl (fun ls hl => ?_)
  refine lv_lload_n hx hb dJ13_bitCount_95d88_24 rfl (lv_at hl 0 rfl) ?_
  refine lv_lload_n hx hb dJ13_bitCount_95d88_25 rfl (lv_at hl 0 rfl) ?_
  refine lv_iconst (v := (4 : Int32)) hx hb dJ13_bitCount_95d88_26 (by decide) ?_
  refine lv_lushr (v := (q_ushr x2 (4 : Int32))) hx hb dJ13_bitCount_95d88_27 rfl ?_
  refine lv_ladd hx hb dJ13_bitCount_95d88_28 ?_
  refine lv_ldc2 (v := (1085102592571150095 : Int64)) hx hb hown (hts (.constantLong RJ13 318 (1085102592571150095)) (by decide +kernel)) dJ13_bitCount_95d88_29 ?_
  refine lv_land hx hb dJ13_bitCount_95d88_32 ?_
  refine lv_topl (fun x3 e_x3 => ?_)
  replace h := q_let_at e_x3 h
  refine lv_lstore_n (lv' := [(0, .long x3)]) hx hb dJ13_bitCount_95d88_33 rfl hl (by decide) rfl (fun ls hl => ?_)
  refine lv_lload_n hx hb dJ13_bitCount_95d88_34 rfl (lv_at hl 0 rfl) ?_
  refine lv_lload_n hx hb dJ13_bitCount_95d88_35 rfl (lv_at hl 0 rfl) ?_
  refine lv_bipush (v := (8 : Int32)) hx hb dJ13_bitCount_95d88_36 (by decide) ?_
  refine lv_lushr (v := (q_ushr x3 (8 : Int32))) hx hb dJ13_bitCount_95d88_38 rfl ?_
  refine lv_ladd hx hb dJ13_bitCount_95d88_39 ?_
  refine lv_topl (fun x4 e_x4 => ?_)
  replace h := q_let_at e_x4 h
  refine lv_lstore_n (lv' := [(0, .long x4)]) hx hb dJ13_bitCount_95d88_40 rfl hl (by decide) rfl (fun ls hl => ?_)
  refine lv_lload_n hx hb dJ13_bitCount_95d88_41 rfl (lv_at hl 0 rfl) ?_
  refine lv_lload_n hx hb dJ13_bitCount_95d88_42 rfl (lv_at hl 0 rfl) ?_
  refine lv_bipush (v := (16 : Int32)) hx hb dJ13_bitCount_95d88_43 (by decide) ?_
  refine lv_lushr (v := (q_ushr x4 (16 : Int32))) hx hb dJ13_bitCount_95d88_45 rfl ?_
  refine lv_ladd hx hb dJ13_bitCount_95d88_46 ?_
  refine lv_topl (fun x5 e_x5 => ?_)
  replace h := q_let_at e_x5 h
  refine lv_lstore_n (lv' := [(0, .long x5)]) hx hb dJ13_bitCount_95d88_47 rfl hl (by decide) rfl (fun ls hl => ?_)
  refine lv_lload_n hx hb dJ13_bitCount_95d88_48 rfl (lv_at hl 0 rfl) ?_
  refine lv_lload_n hx hb dJ13_bitCount_95d88_49 rfl (lv_at hl 0 rfl) ?_
  refine lv_bipush (v := (32 : Int32)) hx hb dJ13_bitCount_95d88_50 (by decide) ?_
  refine lv_lushr (v := (q_ushr x5 (32 : Int32))) hx hb dJ13_bitCount_95d88_52 rfl ?_
  refine lv_ladd hx hb dJ13_bitCount_95d88_53 ?_
  refine lv_topl (fun x6 e_x6 => ?_)
  replace h := q_let_at e_x6 h
  refine lv_lstore_n (lv' := [(0, .long x6)]) hx hb dJ13_bitCount_95d88_54 rfl hl (by decide) rfl (fun ls hl => ?_)
  refine lv_lload_n hx hb dJ13_bitCount_95d88_55 rfl (lv_at hl 0 rfl) ?_
  refine lv_l2i hx hb dJ13_bitCount_95d88_56 rfl ?_
  refine lv_bipush (v := (127 : Int32)) hx hb dJ13_bitCount_95d88_57 (by decide) ?_
  refine lv_iand hx hb dJ13_bitCount_95d88_59 ?_
  exact q_iret h C0 hr hlk hw dJ13_bitCount_95d88_60
-- J6_bitCount_0f7a4 bitCount(I)I
set_option maxHeartbeats 4000000 in
set_option maxRecDepth 100000 in
theorem kJ6_bitCount_0f7a4 {p0 : Int32}  {σ : q_M} {out : Int32 × q_M} (h : fJ6_bitCount_0f7a4 p0 σ = some out) : q_Mi l (g) yJ6_bitCount_0f7a4 wsJ6_bitCount_0f7a4 { frames := 0, cells := 0, slots := 0, locals := 0 } [.int p0] σ out := by
  refine q_Mi_of (cc := cJ6_bitCount_0f7a4) (maxL := 1) (ret := (some .int)) (by decide) rfl (Nat.le_of_ble_eq_true rfl) ?_
  intro p e s m below meth c ls C0 hr hlk hl hw
  obtain ⟨hx, hb, hml, hown, hts⟩ := id C0
  replace hl : lv_has ls 1 [(0, .int p0)] := hl
  unfold fJ6_bitCount_0f7a4 at h
  refine lv_iload_n hx hb dJ6_bitCount_0f7a4_0 rfl (lv_at hl 0 rfl) ?_
  refine lv_iload_n hx hb dJ6_bitCount_0f7a4_1 rfl (lv_at hl 0 rfl) ?_
  refine lv_iconst (v := (1 : Int32)) hx hb dJ6_bitCount_0f7a4_2 (by decide) ?_
  refine lv_iushr (v := (q_su p0 (1 : Int32))) hx hb dJ6_bitCount_0f7a4_3 rfl ?_
  refine lv_ldcw (v := (1431655765 : Int32)) hx hb hown (hts (.constant RJ6 265 (1431655765)) (by decide +kernel)) dJ6_bitCount_0f7a4_4 ?_
  refine lv_iand hx hb dJ6_bitCount_0f7a4_7 ?_
  refine lv_isub hx hb dJ6_bitCount_0f7a4_8 ?_
  refine lv_topi (fun x1 e_x1 => ?_)
  replace h := q_let_at e_x1 h
  refine lv_istore_n (lv' := [(0, .int x1)]) hx hb dJ6_bitCount_0f7a4_9 rfl hl (by decide) rfl (fun ls hl => ?_)
  refine lv_iload_n hx hb dJ6_bitCount_0f7a4_10 rfl (lv_at hl 0 rfl) ?_
  refine lv_ldcw (v := (858993459 : Int32)) hx hb hown (hts (.constant RJ6 266 (858993459)) (by decide +kernel)) dJ6_bitCount_0f7a4_11 ?_
  refine lv_iand hx hb dJ6_bitCount_0f7a4_14 ?_
  refine lv_iload_n hx hb dJ6_bitCount_0f7a4_15 rfl (lv_at hl 0 rfl) ?_
  refine lv_iconst (v := (2 : Int32)) hx hb dJ6_bitCount_0f7a4_16 (by decide) ?_
  refine lv_iushr (v := (q_su x1 (2 : Int32))) hx hb dJ6_bitCount_0f7a4_17 rfl ?_
  refine lv_ldcw (v := (858993459 : Int32)) hx hb hown (hts (.constant RJ6 266 (858993459)) (by decide +kernel)) dJ6_bitCount_0f7a4_18 ?_
  refine lv_iand hx hb dJ6_bitCount_0f7a4_21 ?_
  refine lv_iadd hx hb dJ6_bitCount_0f7a4_22 ?_
  refine lv_topi (fun x2 e_x2 => ?_)
  replace h := q_let_at e_x2 h
  refine lv_istore_n (lv' := [(0, .int x2)]) hx hb dJ6_bitCount_0f7a4_23 rfl hl (by decide) rfl (fun ls hl => ?_)
  refine lv_iload_n hx hb dJ6_bitCount_0f7a4_24 rfl (lv_at hl 0 rfl) ?_
  refine lv_iload_n hx hb dJ6_bitCount_0f7a4_25 rfl (lv_at hl 0 rfl) ?_
  refine lv_iconst (v := (4 : Int32)) hx hb dJ6_bitCount_0f7a4_26 (by decide) ?_
  refine lv_iushr (v := (q_su x2 (4 : Int32))) hx hb dJ6_bitCount_0f7a4_27 rfl ?_
  refine lv_iadd hx hb dJ6_bitCount_0f7a4_28 ?_
  refine lv_ldcw (v := (252645135 : Int32)) hx hb hown (hts (.constant RJ6 267 (252645135)) (by decide +kernel)) dJ6_bitCount_0f7a4_29 ?_
  refine lv_iand hx hb dJ6_bitCount_0f7a4_32 ?_
  refine lv_topi (fun x3 e_x3 => ?_)
  replace h := q_let_at e_x3 h
  refine lv_istore_n (lv' := [(0, .int x3)]) hx hb dJ6_bitCount_0f7a4_33 rfl hl (by decide) rfl (fun ls hl => ?_)
  refine lv_iload_n hx hb dJ6_bitCount_0f7a4_34 rfl (lv_at hl 0 rfl) ?_
  refine lv_iload_n hx hb dJ6_bitCount_0f7a4_35 rfl (lv_at hl 0 rfl) ?_
  refine lv_bipush (v := (8 : Int32)) hx hb dJ6_bitCount_0f7a4_36 (by decide) ?_
  refine lv_iushr (v := (q_su x3 (8 : Int32))) hx hb dJ6_bitCount_0f7a4_38 rfl ?_
  refine lv_iadd hx hb dJ6_bitCount_0f7a4_39 ?_
  refine lv_istore_n (lv' := [(0, .int (x3 + (q_su x3 (8 : Int32))))]) hx hb dJ6_bitCount_0f7a4_40 rfl hl (by decide) rfl (fun ls hl => ?_)
  refine lv_iload_n hx hb dJ6_bitCount_0f7a4_41 rfl (lv_at hl 0 rfl) ?_
  refine lv_iload_n hx hb dJ6_bitCount_0f7a4_42 rfl (lv_at hl 0 rfl) ?_
  refine lv_bipush (v := (16 : Int32)) hx hb dJ6_bitCount_0f7a4_43 (by decide) ?_
  refine lv_iushr (v := (q_su (x3 + (q_su x3 (8 : Int32))) (16 : Int32))) hx hb dJ6_bitCount_0f7a4_45 rfl ?_
  refine lv_iadd hx hb dJ6_bitCount_0f7a4_46 ?_
  refine lv_topi (fun x4 e_x4 => ?_)
  replace h := q_let_at e_x4 h
  refine lv_istore_n (lv' := [(0, .int x4)]) hx hb dJ6_bitCount_0f7a4_47 rfl hl (by decide) rfl (fun ls hl => ?_)
  refine lv_iload_n hx hb dJ6_bitCount_0f7a4_48 rfl (lv_at hl 0 rfl) ?_
  refine lv_bipush (v := (63 : Int32)) hx hb dJ6_bitCount_0f7a4_49 (by decide) ?_
  refine lv_iand hx hb dJ6_bitCount_0f7a4_51 ?_
  exact q_iret h C0 hr hlk hw dJ6_bitCount_0f7a4_52
-- J7_fill_d0a16 fill([JJ)V
set_option maxHeartbeats 4000000 in
set_option maxRecDepth 100000 in
theorem tJ7_fill_d0a16_c6 {k0 nA : Nat} {p1 : Int64} (hA0 : g.2.1[t0]? = some (cA, .long)) (hk0 : k0 < g.2.2.1) (ek0 : ∀ f h, g.2.2.2.2.1 k0 f h = .inl (cA, nA, .inr (.inl h))) (C0 : CallFix p m c cJ7_fill_d0a16 5 s args wsJ7_fill_d0a16 RJ7) (hr : meth.sig.returnType = none) (hlk : meth.locks = false) {out : q_M}  : ∀ n : Nat, ∀ (v3 : Int32) (v4 : Int32) (σ : q_M) (H : Heap) (locs : List Loc) (ls : Array Slot), q_H (g) (q_A (g) s.heap.size) s σ H locs → lv_has ls 5 [(0, .ref (g.2.2.2.1 k0)), (1, .long p1), (3, .int v3), (4, .int v4)] → fJ7_fill_d0a16_c6 k0 nA p1 n v3 v4 σ = some out → W p l e { frames := 0, cells := 0, slots := 0, locals := 0 } s m args below meth c H locs 0 0 (MQ below (q_Rv (g) (q_A (g) s.heap.size) out) args s 0 0 (q_A (g) s.heap.size)) (F0 m 6 ls []) := by
  obtain ⟨hx, hb, hml, hown, hts⟩ := id C0
  intro n
  induction n with
  | zero =>
    intro v3 v4 σ H locs ls  hw hl h
    cases (show (none : Option (q_M)) = some out from h)
  | succ n hrec6 =>
    intro v3 v4 σ H locs ls  hw hl h
    replace h : fJ7_fill_d0a16_c6b k0 nA p1 (fJ7_fill_d0a16_c6 k0 nA p1 n) v3 v4 σ = some out := h
    unfold fJ7_fill_d0a16_c6b at h
    refine lv_iload_n hx hb dJ7_fill_d0a16_6 rfl (lv_at hl 2 rfl) ?_
    refine lv_iload hx hb dJ7_fill_d0a16_7 (lv_at hl 3 rfl) ?_
    refine lv_icmp_ge (tgt := 22) hx hb dJ7_fill_d0a16_9 (by decide) (fun c1 => ?_) (fun c1 => ?_)
    · replace h := q_t h c1
      exact q_vret h C0 hr hlk hw dJ7_fill_d0a16_22
    · replace h := q_f h c1
      refine lv_aload_n hx hb dJ7_fill_d0a16_12 rfl (lv_at hl 0 rfl) ?_
      refine lv_iload_n hx hb dJ7_fill_d0a16_13 rfl (lv_at hl 2 rfl) ?_
      refine lv_lload_n hx hb dJ7_fill_d0a16_14 rfl (lv_at hl 1 rfl) ?_
      obtain ⟨b2, h⟩ := q_if h
      refine q_last (t0 := t0) C0 hw hk0 ek0 hA0 b2 dJ7_fill_d0a16_15 (fun σ3 H locs e_σ3 hw => ?_)
      replace h := q_let_at e_σ3 h
      refine lv_iinc (v := (v3 + (1 : Int32))) (lv' := [(3, .int (v3 + (1 : Int32))), (0, .ref (g.2.2.2.1 k0)), (1, .long p1), (4, .int v4)]) hx hb dJ7_fill_d0a16_16 hl (k := 2) rfl rfl (by decide) rfl (fun ls hl => ?_)
      refine lv_goto (tgt := 6) hx hb dJ7_fill_d0a16_19 (by decide) ?_
      exact hrec6 (v3 + (1 : Int32)) v4 σ3 _ _ _ hw (lv_sub hl [1, 2, 0, 3] rfl) h
set_option maxHeartbeats 4000000 in
set_option maxRecDepth 100000 in
theorem kJ7_fill_d0a16 {k0 nA : Nat} {p1 : Int64} (hA0 : g.2.1[t0]? = some (cA, .long)) (hk0 : k0 < g.2.2.1) (ek0 : ∀ f h, g.2.2.2.2.1 k0 f h = .inl (cA, nA, .inr (.inl h))) {σ : q_M} {out : q_M} (h : fJ7_fill_d0a16 k0 nA p1 σ = some out) : q_Mv l (g) yJ7_fill_d0a16 wsJ7_fill_d0a16 { frames := 0, cells := 0, slots := 0, locals := 0 } [.ref (g.2.2.2.1 k0), .long p1] σ out := by
  refine q_Mv_of (cc := cJ7_fill_d0a16) (maxL := 5) (ret := none) (by decide) rfl (Nat.le_of_ble_eq_true rfl) ?_
  intro p e s m below meth c ls C0 hr hlk hl hw
  obtain ⟨hx, hb, hml, hown, hts⟩ := id C0
  replace hl : lv_has ls 5 [(0, .ref (g.2.2.2.1 k0)), (1, .long p1)] := hl
  unfold fJ7_fill_d0a16 at h
  refine lv_iconst (v := (0 : Int32)) hx hb dJ7_fill_d0a16_0 (by decide) ?_
  refine lv_istore_n (lv' := [(3, .int (0 : Int32)), (0, .ref (g.2.2.2.1 k0)), (1, .long p1)]) hx hb dJ7_fill_d0a16_1 rfl hl (by decide) rfl (fun ls hl => ?_)
  refine lv_aload_n hx hb dJ7_fill_d0a16_2 rfl (lv_at hl 1 rfl) ?_
  refine q_alen (t0 := t0) C0 hw hk0 ek0 hA0 (fun _ _ => rfl) dJ7_fill_d0a16_3 ?_
  refine lv_istore (lv' := [(4, .int (nI nA)), (3, .int (0 : Int32)), (0, .ref (g.2.2.2.1 k0)), (1, .long p1)]) hx hb dJ7_fill_d0a16_4 hl (by decide) rfl (fun ls hl => ?_)
  exact tJ7_fill_d0a16_c6 hA0 hk0 ek0 C0 hr hlk q_FU (0 : Int32) (nI nA) σ _ _ _ hw (lv_sub hl [2, 3, 1, 0] rfl) h
end
