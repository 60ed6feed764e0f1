section
variable {p : Program} {l : Launch} {e : Env} {s : State} {m : MethodId} {args : Array Value} {below : List Frame} {meth : Method} {c : Code} {D : va_G} {cI cJ cS : ClassId} {ad adK adV : Nat → Nat}
-- X4_numberWithin numberWithin(LMouldThatComesOff$Tape;II)I
theorem eX7_number : yX7_number.cls = RX7 ∧ yX7_number.cls ≠ "java/lang/invoke/MethodHandle" ∧ yX7_number.cls ≠ "java/lang/invoke/VarHandle" ∧ (parseMethodDescriptor yX7_number.desc).map (fun d => d.parameters.length) = some 0 := by decide +kernel
set_option maxHeartbeats 4000000 in
set_option maxRecDepth 100000 in
theorem kX4_numberWithin {p1 : Int32} {p2 : Int32}  {σ : q_M} {out : Int32 × q_M} (h : fX4_numberWithin p1 p2 σ = some out) : q_Mi l (gX D cI cJ cS ad adK adV) yX4_numberWithin wsX4_numberWithin { frames := 2, cells := 0, slots := 0, locals := 40 } [.ref (ad 23), .int p1, .int p2] σ out := by
  refine q_Mi_of (cc := cX4_numberWithin) (maxL := 4) (ret := (some .int)) (by decide) rfl (Nat.le_of_ble_eq_true rfl) ?_
  intro p e s m below meth c ls C0 hr hlk hl hw
  obtain ⟨hx, hb, hml, hown, hts⟩ := id C0
  replace hl : lv_has ls 4 [(0, .ref (ad 23)), (1, .int p1), (2, .int p2)] := hl
  unfold fX4_numberWithin at h
  refine lv_aload_n hx hb dX4_numberWithin_0 rfl (lv_at hl 0 rfl) ?_
  obtain ⟨o1, hco1, h⟩ := q_bind h
  refine q_calli hw (va_runV (As := []) (rest := []) C0 (kX7_number hco1 _) (cwV 0 hts gX4_numberWithin_X7_number rfl rfl rfl eX7_number ⟨(Nat.le_of_ble_eq_true rfl), (Nat.le_of_ble_eq_true rfl)⟩) ⟨q_blind, q_recv hw (xN_9 xF_23) (xE_9 xF_23) rfl, q_pre hw⟩ rfl rfl hl.1 rfl (lv_room (Nat.le_of_ble_eq_true rfl)) dX4_numberWithin_1 ⟨Nat.zero_le _, Nat.zero_le _⟩) (fun H locs hw => ?_)
  refine lv_istore_n (lv' := [(3, .int o1.1), (0, .ref (ad 23)), (1, .int p1), (2, .int p2)]) hx hb dX4_numberWithin_4 rfl hl (by decide) rfl (fun ls hl => ?_)
  refine lv_iload_n hx hb dX4_numberWithin_5 rfl (lv_at hl 0 rfl) ?_
  refine lv_iload_n hx hb dX4_numberWithin_6 rfl (lv_at hl 2 rfl) ?_
  refine lv_icmp_lt (tgt := 15) hx hb dX4_numberWithin_7 (by decide) (fun c2 => ?_) (fun c2 => ?_)
  · replace h := q_t h c2
    refine lv_iconst (v := (-1 : Int32)) hx hb dX4_numberWithin_15 (by decide) ?_
    exact q_iret h C0 hr hlk hw dX4_numberWithin_16
  · replace h := q_f h c2
    refine lv_iload_n hx hb dX4_numberWithin_10 rfl (lv_at hl 0 rfl) ?_
    refine lv_iload_n hx hb dX4_numberWithin_11 rfl (lv_at hl 3 rfl) ?_
    refine lv_icmp_le (tgt := 17) hx hb dX4_numberWithin_12 (by decide) (fun c3 => ?_) (fun c3 => ?_)
    · replace h := q_t h c3
      refine lv_aload_n hx hb dX4_numberWithin_17 rfl (lv_at hl 1 rfl) ?_
      obtain ⟨o4, hco4, h⟩ := q_bind h
      refine q_callv hw (va_runV (As := []) (rest := []) C0 (kX7_advance hco4 _) (cwV 0 hts gX4_numberWithin_X7_advance rfl rfl rfl eX7_advance ⟨(Nat.le_of_ble_eq_true rfl), (Nat.le_of_ble_eq_true rfl)⟩) ⟨q_blind, q_recv hw (xN_9 xF_23) (xE_9 xF_23) rfl, q_pre hw⟩ rfl rfl hl.1 rfl (lv_room (Nat.le_of_ble_eq_true rfl)) dX4_numberWithin_18 ⟨Nat.zero_le _, Nat.zero_le _⟩) (fun H locs hw => ?_)
      refine lv_iload_n hx hb dX4_numberWithin_21 rfl (lv_at hl 0 rfl) ?_
      exact q_iret h C0 hr hlk hw dX4_numberWithin_22
    · replace h := q_f h c3
      refine lv_iconst (v := (-1 : Int32)) hx hb dX4_numberWithin_15 (by decide) ?_
      exact q_iret h C0 hr hlk hw dX4_numberWithin_16
-- X4_readBox readBox(LMouldThatComesOff$Tape;LMouldThatComesOff$Mould;I)Z
theorem iX4_readBox_X0 : ∀ w ∈ wsX00, w ∈ wsX4_readBox := by decide +kernel
theorem iX4_readBox_X2 : ∀ w ∈ wsX20, w ∈ wsX4_readBox := by decide +kernel
theorem eX0_boxOf : yX0_boxOf.cls = RX0 ∧ yX0_boxOf.cls ≠ "java/lang/invoke/MethodHandle" ∧ yX0_boxOf.cls ≠ "java/lang/invoke/VarHandle" ∧ (parseMethodDescriptor yX0_boxOf.desc).map (fun d => d.parameters.length) = some 2 := by decide +kernel
theorem eX2_fillLast : yX2_fillLast.cls = RX2 ∧ yX2_fillLast.cls ≠ "java/lang/invoke/MethodHandle" ∧ yX2_fillLast.cls ≠ "java/lang/invoke/VarHandle" ∧ (parseMethodDescriptor yX2_fillLast.desc).map (fun d => d.parameters.length) = some 1 := by decide +kernel
theorem eX4_numberWithin : yX4_numberWithin.cls ≠ "java/lang/invoke/MethodHandle" ∧ yX4_numberWithin.cls ≠ "java/lang/invoke/VarHandle" ∧ (parseMethodDescriptor yX4_numberWithin.desc).map (fun d => d.parameters.length) = some 3 := by decide +kernel
theorem eX7_isWord : yX7_isWord.cls = RX7 ∧ yX7_isWord.cls ≠ "java/lang/invoke/MethodHandle" ∧ yX7_isWord.cls ≠ "java/lang/invoke/VarHandle" ∧ (parseMethodDescriptor yX7_isWord.desc).map (fun d => d.parameters.length) = some 1 := by decide +kernel
set_option maxHeartbeats 4000000 in
set_option maxRecDepth 100000 in
theorem kX4_readBox {k1 : Nat} {p2 : Int32} (hk1 : xK k1 = 1) {σ : q_M} {out : Int32 × q_M} (h : fX4_readBox k1 p2 σ = some out) : q_Mi l (gX D cI cJ cS ad adK adV) yX4_readBox wsX4_readBox { frames := 5, cells := 0, slots := 0, locals := 107 } [.ref (ad 23), .ref (ad k1), .int p2] σ out := by
  refine q_Mi_of (cc := cX4_readBox) (maxL := 8) (ret := (some .boolean)) (by decide) rfl (Nat.le_of_ble_eq_true rfl) ?_
  intro p e s m below meth c ls C0 hr hlk hl hw
  obtain ⟨hx, hb, hml, hown, hts⟩ := id C0
  replace hl : lv_has ls 8 [(0, .ref (ad 23)), (1, .ref (ad k1)), (2, .int p2)] := hl
  unfold fX4_readBox at h
  refine lv_aload_n hx hb dX4_readBox_0 rfl (lv_at hl 1 rfl) ?_
  refine gt_X2_0 C0 hw hk1 iX4_readBox_X2 (by decide +kernel) dX4_readBox_1 ?_
  refine gt_X0_1 C0 hw (xD_1_1 hk1) iX4_readBox_X0 (by decide +kernel) dX4_readBox_4 ?_
  refine lv_iconst (v := (1 : Int32)) hx hb dX4_readBox_7 (by decide) ?_
  refine lv_isub hx hb dX4_readBox_8 ?_
  refine lv_topi (fun x1 e_x1 => ?_)
  replace h := q_let_at e_x1 h
  refine lv_istore_n (lv' := [(3, .int x1), (0, .ref (ad 23)), (1, .ref (ad k1)), (2, .int p2)]) hx hb dX4_readBox_9 rfl hl (by decide) rfl (fun ls hl => ?_)
  refine lv_aload_n hx hb dX4_readBox_10 rfl (lv_at hl 1 rfl) ?_
  obtain ⟨o2, hco2, h⟩ := q_bind h
  refine q_callv hw (va_runV (As := []) (rest := []) C0 (kX7_advance hco2 _) (cwV 0 hts gX4_readBox_X7_advance rfl rfl rfl eX7_advance ⟨(Nat.le_of_ble_eq_true rfl), (Nat.le_of_ble_eq_true rfl)⟩) ⟨q_blind, q_recv hw (xN_9 xF_23) (xE_9 xF_23) rfl, q_pre hw⟩ rfl rfl hl.1 rfl (lv_room (Nat.le_of_ble_eq_true rfl)) dX4_readBox_11 ⟨Nat.zero_le _, Nat.zero_le _⟩) (fun H locs hw => ?_)
  refine lv_aload_n hx hb dX4_readBox_14 rfl (lv_at hl 1 rfl) ?_
  refine lv_iconst (v := (0 : Int32)) hx hb dX4_readBox_15 (by decide) ?_
  refine lv_iload_n hx hb dX4_readBox_16 rfl (lv_at hl 0 rfl) ?_
  obtain ⟨o3, hco3, h⟩ := q_bind h
  refine q_calli hw (va_runS (As := [.ref (ad 23), .int (0 : Int32), .int x1]) (rest := []) C0 (kX4_numberWithin hco3 _) (va_cwS 3 hts gX4_readBox_X4_numberWithin rfl rfl rfl eX4_numberWithin ⟨(Nat.le_of_ble_eq_true rfl), (Nat.le_of_ble_eq_true rfl)⟩) ⟨q_blind, q_pre hw⟩ rfl rfl hl.1 rfl (lv_room (Nat.le_of_ble_eq_true rfl)) dX4_readBox_17 ⟨Nat.zero_le _, Nat.zero_le _⟩) (fun H locs hw => ?_)
  refine lv_istore (lv' := [(4, .int o3.1), (3, .int x1), (0, .ref (ad 23)), (1, .ref (ad k1)), (2, .int p2)]) hx hb dX4_readBox_20 hl (by decide) rfl (fun ls hl => ?_)
  refine lv_iload hx hb dX4_readBox_22 (lv_at hl 0 rfl) ?_
  refine lv_iconst (v := (-1 : Int32)) hx hb dX4_readBox_24 (by decide) ?_
  refine lv_icmp_eq (tgt := 37) hx hb dX4_readBox_25 (by decide) (fun c4 => ?_) (fun c4 => ?_)
  · replace h := q_t h c4
    refine lv_iconst (v := (0 : Int32)) hx hb dX4_readBox_37 (by decide) ?_
    exact q_zret h C0 hr rfl hlk hw dX4_readBox_38
  · replace h := q_f h c4
    refine lv_aload_n hx hb dX4_readBox_28 rfl (lv_at hl 2 rfl) ?_
    refine va_ldcS hx hb hown (q_Zr1 hw 8 (by decide)) dX4_readBox_29 ?_
    obtain ⟨o5, hco5, h⟩ := q_bind h
    refine q_calli hw (va_runV (As := [.ref (adK 8)]) (rest := []) C0 (kX7_isWord (by decide) hco5 _) (cwV 1 hts gX4_readBox_X7_isWord rfl rfl rfl eX7_isWord ⟨(Nat.le_of_ble_eq_true rfl), (Nat.le_of_ble_eq_true rfl)⟩) ⟨q_blind, q_recv hw (xN_9 xF_23) (xE_9 xF_23) rfl, q_pre hw⟩ rfl rfl hl.1 rfl (lv_room (Nat.le_of_ble_eq_true rfl)) dX4_readBox_31 ⟨Nat.zero_le _, Nat.zero_le _⟩) (fun H locs hw => ?_)
    refine lv_if_ne (tgt := 39) hx hb dX4_readBox_34 (by decide) (fun c6 => ?_) (fun c6 => ?_)
    · replace h := q_f h c6
      refine lv_aload_n hx hb dX4_readBox_39 rfl (lv_at hl 2 rfl) ?_
      obtain ⟨o7, hco7, h⟩ := q_bind h
      refine q_callv hw (va_runV (As := []) (rest := []) C0 (kX7_advance hco7 _) (cwV 0 hts gX4_readBox_X7_advance rfl rfl rfl eX7_advance ⟨(Nat.le_of_ble_eq_true rfl), (Nat.le_of_ble_eq_true rfl)⟩) ⟨q_blind, q_recv hw (xN_9 xF_23) (xE_9 xF_23) rfl, q_pre hw⟩ rfl rfl hl.1 rfl (lv_room (Nat.le_of_ble_eq_true rfl)) dX4_readBox_40 ⟨Nat.zero_le _, Nat.zero_le _⟩) (fun H locs hw => ?_)
      refine lv_aload_n hx hb dX4_readBox_43 rfl (lv_at hl 2 rfl) ?_
      refine lv_iconst (v := (0 : Int32)) hx hb dX4_readBox_44 (by decide) ?_
      refine lv_iload_n hx hb dX4_readBox_45 rfl (lv_at hl 1 rfl) ?_
      obtain ⟨o8, hco8, h⟩ := q_bind h
      refine q_calli hw (va_runS (As := [.ref (ad 23), .int (0 : Int32), .int x1]) (rest := []) C0 (kX4_numberWithin hco8 _) (va_cwS 3 hts gX4_readBox_X4_numberWithin rfl rfl rfl eX4_numberWithin ⟨(Nat.le_of_ble_eq_true rfl), (Nat.le_of_ble_eq_true rfl)⟩) ⟨q_blind, q_pre hw⟩ rfl rfl hl.1 rfl (lv_room (Nat.le_of_ble_eq_true rfl)) dX4_readBox_46 ⟨Nat.zero_le _, Nat.zero_le _⟩) (fun H locs hw => ?_)
      refine lv_istore (lv' := [(5, .int o8.1), (4, .int o3.1), (3, .int x1), (0, .ref (ad 23)), (1, .ref (ad k1)), (2, .int p2)]) hx hb dX4_readBox_49 hl (by decide) rfl (fun ls hl => ?_)
      refine lv_iload hx hb dX4_readBox_51 (lv_at hl 0 rfl) ?_
      refine lv_iconst (v := (-1 : Int32)) hx hb dX4_readBox_53 (by decide) ?_
      refine lv_icmp_ne (tgt := 59) hx hb dX4_readBox_54 (by decide) (fun c9 => ?_) (fun c9 => ?_)
      · replace h := q_f h c9
        refine lv_aload_n hx hb dX4_readBox_59 rfl (lv_at hl 4 rfl) ?_
        refine gt_X2_0 C0 hw hk1 iX4_readBox_X2 (by decide +kernel) dX4_readBox_60 ?_
        refine lv_iload hx hb dX4_readBox_63 (lv_at hl 1 rfl) ?_
        refine lv_iload hx hb dX4_readBox_65 (lv_at hl 0 rfl) ?_
        obtain ⟨o10, hco10, h⟩ := q_bind h
        refine q_calll hw (va_runV (As := [.int o3.1, .int o8.1]) (rest := []) C0 (kX0_boxOf (xD_1_1 hk1) hco10 _) (cwV 2 hts gX4_readBox_X0_boxOf rfl rfl rfl eX0_boxOf ⟨(Nat.le_of_ble_eq_true rfl), (Nat.le_of_ble_eq_true rfl)⟩) ⟨q_blind, q_recv hw (xN_2 (xD_1_1 hk1)) (xE_2 (xD_1_1 hk1)) rfl, q_pre hw⟩ rfl rfl hl.1 rfl (lv_room (Nat.le_of_ble_eq_true rfl)) dX4_readBox_67 ⟨Nat.zero_le _, Nat.zero_le _⟩) (fun H locs hw => ?_)
        refine lv_lstore (lv' := [(6, .long o10.1), (5, .int o8.1), (4, .int o3.1), (3, .int x1), (0, .ref (ad 23)), (1, .ref (ad k1)), (2, .int p2)]) hx hb dX4_readBox_70 hl (by decide) rfl (fun ls hl => ?_)
        refine lv_iload_n hx hb dX4_readBox_72 rfl (lv_at hl 6 rfl) ?_
        by_cases c11 : p2 = (0 : Int32)
        · replace h := q_t h c11
          refine q_lookIn (off := 27) (tgt := 100) C0 c11 dX4_readBox_73 (by decide) (by decide) (by decide) ?_
          refine lv_aload_n hx hb dX4_readBox_100 rfl (lv_at hl 5 rfl) ?_
          refine lv_dup hx hb dX4_readBox_101 rfl ?_
          refine gt_X2_1 C0 hw hk1 iX4_readBox_X2 (by decide +kernel) dX4_readBox_102 ?_
          refine lv_lload hx hb dX4_readBox_105 (lv_at hl 0 rfl) ?_
          refine lv_lor hx hb dX4_readBox_107 ?_
          refine pt_X2_1 C0 hw hk1 iX4_readBox_X2 (by decide +kernel) dX4_readBox_108 (fun σ12 H locs e_σ12 hw => ?_)
          replace h := q_let_at e_σ12 h
          refine lv_goto (tgt := 138) hx hb dX4_readBox_111 (by decide) ?_
          refine lv_iconst (v := (1 : Int32)) hx hb dX4_readBox_138 (by decide) ?_
          exact q_zret h C0 hr rfl hlk hw dX4_readBox_139
        · replace h := q_f h c11
          by_cases c13 : p2 = (1 : Int32)
          · replace h := q_t h c13
            refine q_lookIn (off := 41) (tgt := 114) C0 c13 dX4_readBox_73 (by decide) (by decide) (by decide) ?_
            refine lv_aload_n hx hb dX4_readBox_114 rfl (lv_at hl 5 rfl) ?_
            refine lv_dup hx hb dX4_readBox_115 rfl ?_
            refine gt_X2_1 C0 hw hk1 iX4_readBox_X2 (by decide +kernel) dX4_readBox_116 ?_
            refine lv_lload hx hb dX4_readBox_119 (lv_at hl 0 rfl) ?_
            refine lv_ldc2 (v := (-1 : Int64)) hx hb hown (hts (.constantLong RX4 102 (-1)) (by decide +kernel)) dX4_readBox_121 ?_
            refine lv_lxor hx hb dX4_readBox_124 ?_
            refine lv_land hx hb dX4_readBox_125 ?_
            refine pt_X2_1 C0 hw hk1 iX4_readBox_X2 (by decide +kernel) dX4_readBox_126 (fun σ14 H locs e_σ14 hw => ?_)
            replace h := q_let_at e_σ14 h
            refine lv_goto (tgt := 138) hx hb dX4_readBox_129 (by decide) ?_
            refine lv_iconst (v := (1 : Int32)) hx hb dX4_readBox_138 (by decide) ?_
            exact q_zret h C0 hr rfl hlk hw dX4_readBox_139
          · replace h := q_f h c13
            have n_c11 := q_neI (n := 0) c11 (by decide)
            have n_c13 := q_neI (n := 1) c13 (by decide)
            refine lv_lookup (off := 59) (tgt := 132) hx hb dX4_readBox_73 (by decide) (by simp [Op.lookupswitch.offset, n_c11.symm, n_c13.symm]) (by decide) ?_
            refine lv_aload_n hx hb dX4_readBox_132 rfl (lv_at hl 5 rfl) ?_
            refine lv_lload hx hb dX4_readBox_133 (lv_at hl 0 rfl) ?_
            obtain ⟨o15, hco15, h⟩ := q_bind h
            refine q_callv hw (va_runV (As := [.long o10.1]) (rest := []) C0 (kX2_fillLast hk1 hco15 _) (cwV 1 hts gX4_readBox_X2_fillLast rfl rfl rfl eX2_fillLast ⟨(Nat.le_of_ble_eq_true rfl), (Nat.le_of_ble_eq_true rfl)⟩) ⟨q_blind, q_recv hw (xN_1 hk1) (xE_1 hk1) rfl, q_pre hw⟩ rfl rfl hl.1 rfl (lv_room (Nat.le_of_ble_eq_true rfl)) dX4_readBox_135 ⟨Nat.zero_le _, Nat.zero_le _⟩) (fun H locs hw => ?_)
            refine lv_iconst (v := (1 : Int32)) hx hb dX4_readBox_138 (by decide) ?_
            exact q_zret h C0 hr rfl hlk hw dX4_readBox_139
      · replace h := q_t h c9
        refine lv_iconst (v := (0 : Int32)) hx hb dX4_readBox_57 (by decide) ?_
        exact q_zret h C0 hr rfl hlk hw dX4_readBox_58
    · replace h := q_t h c6
      refine lv_iconst (v := (0 : Int32)) hx hb dX4_readBox_37 (by decide) ?_
      exact q_zret h C0 hr rfl hlk hw dX4_readBox_38
-- X4_readHeavy readHeavy(LMouldThatComesOff$Tape;LMouldThatComesOff$Mould;)Z
theorem iX4_readHeavy_X2 : ∀ w ∈ wsX20, w ∈ wsX4_readHeavy := by decide +kernel
set_option maxHeartbeats 4000000 in
set_option maxRecDepth 100000 in
theorem kX4_readHeavy {k1 : Nat} (hk1 : xK k1 = 1) {σ : q_M} {out : Int32 × q_M} (h : fX4_readHeavy k1 σ = some out) : q_Mi l (gX D cI cJ cS ad adK adV) yX4_readHeavy wsX4_readHeavy { frames := 3, cells := 0, slots := 0, locals := 63 } [.ref (ad 23), .ref (ad k1)] σ out := by
  refine q_Mi_of (cc := cX4_readHeavy) (maxL := 3) (ret := (some .boolean)) (by decide) rfl (Nat.le_of_ble_eq_true rfl) ?_
  intro p e s m below meth c ls C0 hr hlk hl hw
  obtain ⟨hx, hb, hml, hown, hts⟩ := id C0
  replace hl : lv_has ls 3 [(0, .ref (ad 23)), (1, .ref (ad k1))] := hl
  unfold fX4_readHeavy at h
  refine lv_aload_n hx hb dX4_readHeavy_0 rfl (lv_at hl 0 rfl) ?_
  obtain ⟨o1, hco1, h⟩ := q_bind h
  refine q_callv hw (va_runV (As := []) (rest := []) C0 (kX7_advance hco1 _) (cwV 0 hts gX4_readHeavy_X7_advance rfl rfl rfl eX7_advance ⟨(Nat.le_of_ble_eq_true rfl), (Nat.le_of_ble_eq_true rfl)⟩) ⟨q_blind, q_recv hw (xN_9 xF_23) (xE_9 xF_23) rfl, q_pre hw⟩ rfl rfl hl.1 rfl (lv_room (Nat.le_of_ble_eq_true rfl)) dX4_readHeavy_1 ⟨Nat.zero_le _, Nat.zero_le _⟩) (fun H locs hw => ?_)
  refine lv_aload_n hx hb dX4_readHeavy_4 rfl (lv_at hl 0 rfl) ?_
  refine lv_iconst (v := (1 : Int32)) hx hb dX4_readHeavy_5 (by decide) ?_
  refine lv_bipush (v := (64 : Int32)) hx hb dX4_readHeavy_6 (by decide) ?_
  obtain ⟨o2, hco2, h⟩ := q_bind h
  refine q_calli hw (va_runS (As := [.ref (ad 23), .int (1 : Int32), .int (64 : Int32)]) (rest := []) C0 (kX4_numberWithin hco2 _) (va_cwS 3 hts gX4_readHeavy_X4_numberWithin rfl rfl rfl eX4_numberWithin ⟨(Nat.le_of_ble_eq_true rfl), (Nat.le_of_ble_eq_true rfl)⟩) ⟨q_blind, q_pre hw⟩ rfl rfl hl.1 rfl (lv_room (Nat.le_of_ble_eq_true rfl)) dX4_readHeavy_8 ⟨Nat.zero_le _, Nat.zero_le _⟩) (fun H locs hw => ?_)
  refine lv_istore_n (lv' := [(2, .int o2.1), (0, .ref (ad 23)), (1, .ref (ad k1))]) hx hb dX4_readHeavy_11 rfl hl (by decide) rfl (fun ls hl => ?_)
  refine lv_iload_n hx hb dX4_readHeavy_12 rfl (lv_at hl 0 rfl) ?_
  refine lv_iconst (v := (-1 : Int32)) hx hb dX4_readHeavy_13 (by decide) ?_
  refine lv_icmp_eq (tgt := 22) hx hb dX4_readHeavy_14 (by decide) (fun c3 => ?_) (fun c3 => ?_)
  · replace h := q_t h c3
    refine lv_iload_n hx hb dX4_readHeavy_22 rfl (lv_at hl 0 rfl) ?_
    refine lv_iconst (v := (-1 : Int32)) hx hb dX4_readHeavy_23 (by decide) ?_
    refine lv_icmp_eq (tgt := 31) hx hb dX4_readHeavy_24 (by decide) (fun c4 => ?_) (fun c4 => ?_)
    · replace h := q_t h c4
      refine lv_iconst (v := (0 : Int32)) hx hb dX4_readHeavy_31 (by decide) ?_
      exact q_zret h C0 hr rfl hlk hw dX4_readHeavy_32
    · replace h := q_f h c4
      refine lv_iconst (v := (1 : Int32)) hx hb dX4_readHeavy_27 (by decide) ?_
      refine lv_goto (tgt := 32) hx hb dX4_readHeavy_28 (by decide) ?_
      exact q_zret h C0 hr rfl hlk hw dX4_readHeavy_32
  · replace h := q_f h c3
    refine lv_aload_n hx hb dX4_readHeavy_17 rfl (lv_at hl 2 rfl) ?_
    refine lv_iload_n hx hb dX4_readHeavy_18 rfl (lv_at hl 0 rfl) ?_
    refine pt_X2_4 C0 hw hk1 iX4_readHeavy_X2 (by decide +kernel) dX4_readHeavy_19 (fun σ5 H locs e_σ5 hw => ?_)
    replace h := q_let_at e_σ5 h
    refine lv_iload_n hx hb dX4_readHeavy_22 rfl (lv_at hl 0 rfl) ?_
    refine lv_iconst (v := (-1 : Int32)) hx hb dX4_readHeavy_23 (by decide) ?_
    refine lv_icmp_eq (tgt := 31) hx hb dX4_readHeavy_24 (by decide) (fun c6 => ?_) (fun c6 => ?_)
    · replace h := q_t h c6
      refine lv_iconst (v := (0 : Int32)) hx hb dX4_readHeavy_31 (by decide) ?_
      exact q_zret h C0 hr rfl hlk hw dX4_readHeavy_32
    · replace h := q_f h c6
      refine lv_iconst (v := (1 : Int32)) hx hb dX4_readHeavy_27 (by decide) ?_
      refine lv_goto (tgt := 32) hx hb dX4_readHeavy_28 (by decide) ?_
      exact q_zret h C0 hr rfl hlk hw dX4_readHeavy_32
-- X4_readPiece readPiece(LMouldThatComesOff$Tape;LMouldThatComesOff$Mould;)Z
theorem iX4_readPiece_X2 : ∀ w ∈ wsX20, w ∈ wsX4_readPiece := by decide +kernel
set_option maxHeartbeats 4000000 in
set_option maxRecDepth 100000 in
theorem kX4_readPiece {k1 : Nat} (hk1 : xK k1 = 1) {σ : q_M} {out : Int32 × q_M} (h : fX4_readPiece k1 σ = some out) : q_Mi l (gX D cI cJ cS ad adK adV) yX4_readPiece wsX4_readPiece { frames := 2, cells := 0, slots := 0, locals := 40 } [.ref (ad 23), .ref (ad k1)] σ out := by
  refine q_Mi_of (cc := cX4_readPiece) (maxL := 2) (ret := (some .boolean)) (by decide) rfl (Nat.le_of_ble_eq_true rfl) ?_
  intro p e s m below meth c ls C0 hr hlk hl hw
  obtain ⟨hx, hb, hml, hown, hts⟩ := id C0
  replace hl : lv_has ls 2 [(0, .ref (ad 23)), (1, .ref (ad k1))] := hl
  unfold fX4_readPiece at h
  refine lv_aload_n hx hb dX4_readPiece_0 rfl (lv_at hl 1 rfl) ?_
  refine gt_X2_2 C0 hw hk1 iX4_readPiece_X2 (by decide +kernel) dX4_readPiece_1 ?_
  refine lv_bipush (v := (8 : Int32)) hx hb dX4_readPiece_4 (by decide) ?_
  refine lv_icmp_lt (tgt := 11) hx hb dX4_readPiece_6 (by decide) (fun c1 => ?_) (fun c1 => ?_)
  · replace h := q_t h c1
    refine lv_aload_n hx hb dX4_readPiece_11 rfl (lv_at hl 1 rfl) ?_
    refine lv_lconst (v := (0 : Int64)) hx hb dX4_readPiece_12 (by decide) ?_
    obtain ⟨o2, hco2, h⟩ := q_bind h
    refine q_callv hw (va_runV (As := [.long (0 : Int64)]) (rest := []) C0 (kX2_addPiece hk1 hco2 _) (cwV 1 hts gX4_readPiece_X2_addPiece rfl rfl rfl eX2_addPiece ⟨(Nat.le_of_ble_eq_true rfl), (Nat.le_of_ble_eq_true rfl)⟩) ⟨q_blind, q_recv hw (xN_1 hk1) (xE_1 hk1) rfl, q_pre hw⟩ rfl rfl hl.1 rfl (lv_room (Nat.le_of_ble_eq_true rfl)) dX4_readPiece_13 ⟨Nat.zero_le _, Nat.zero_le _⟩) (fun H locs hw => ?_)
    refine lv_aload_n hx hb dX4_readPiece_16 rfl (lv_at hl 0 rfl) ?_
    obtain ⟨o3, hco3, h⟩ := q_bind h
    refine q_callv hw (va_runV (As := []) (rest := []) C0 (kX7_advance hco3 _) (cwV 0 hts gX4_readPiece_X7_advance rfl rfl rfl eX7_advance ⟨(Nat.le_of_ble_eq_true rfl), (Nat.le_of_ble_eq_true rfl)⟩) ⟨q_blind, q_recv hw (xN_9 xF_23) (xE_9 xF_23) rfl, q_pre hw⟩ rfl rfl hl.1 rfl (lv_room (Nat.le_of_ble_eq_true rfl)) dX4_readPiece_17 ⟨Nat.zero_le _, Nat.zero_le _⟩) (fun H locs hw => ?_)
    refine lv_iconst (v := (1 : Int32)) hx hb dX4_readPiece_20 (by decide) ?_
    exact q_zret h C0 hr rfl hlk hw dX4_readPiece_21
  · replace h := q_f h c1
    refine lv_iconst (v := (0 : Int32)) hx hb dX4_readPiece_9 (by decide) ?_
    exact q_zret h C0 hr rfl hlk hw dX4_readPiece_10
-- X4_readShows readShows(LMouldThatComesOff$Tape;LMouldThatComesOff$Mould;)Z
theorem iX4_readShows_X0 : ∀ w ∈ wsX00, w ∈ wsX4_readShows := by decide +kernel
theorem iX4_readShows_X2 : ∀ w ∈ wsX20, w ∈ wsX4_readShows := by decide +kernel
theorem eX2_putShows : yX2_putShows.cls = RX2 ∧ yX2_putShows.cls ≠ "java/lang/invoke/MethodHandle" ∧ yX2_putShows.cls ≠ "java/lang/invoke/VarHandle" ∧ (parseMethodDescriptor yX2_putShows.desc).map (fun d => d.parameters.length) = some 2 := by decide +kernel
set_option maxHeartbeats 4000000 in
set_option maxRecDepth 100000 in
theorem kX4_readShows {k1 : Nat} (hk1 : xK k1 = 1) {σ : q_M} {out : Int32 × q_M} (h : fX4_readShows k1 σ = some out) : q_Mi l (gX D cI cJ cS ad adK adV) yX4_readShows wsX4_readShows { frames := 3, cells := 0, slots := 0, locals := 63 } [.ref (ad 23), .ref (ad k1)] σ out := by
  refine q_Mi_of (cc := cX4_readShows) (maxL := 4) (ret := (some .boolean)) (by decide) rfl (Nat.le_of_ble_eq_true rfl) ?_
  intro p e s m below meth c ls C0 hr hlk hl hw
  obtain ⟨hx, hb, hml, hown, hts⟩ := id C0
  replace hl : lv_has ls 4 [(0, .ref (ad 23)), (1, .ref (ad k1))] := hl
  unfold fX4_readShows at h
  refine lv_aload_n hx hb dX4_readShows_0 rfl (lv_at hl 0 rfl) ?_
  obtain ⟨o1, hco1, h⟩ := q_bind h
  refine q_callv hw (va_runV (As := []) (rest := []) C0 (kX7_advance hco1 _) (cwV 0 hts gX4_readShows_X7_advance rfl rfl rfl eX7_advance ⟨(Nat.le_of_ble_eq_true rfl), (Nat.le_of_ble_eq_true rfl)⟩) ⟨q_blind, q_recv hw (xN_9 xF_23) (xE_9 xF_23) rfl, q_pre hw⟩ rfl rfl hl.1 rfl (lv_room (Nat.le_of_ble_eq_true rfl)) dX4_readShows_1 ⟨Nat.zero_le _, Nat.zero_le _⟩) (fun H locs hw => ?_)
  refine lv_aload_n hx hb dX4_readShows_4 rfl (lv_at hl 0 rfl) ?_
  refine lv_iconst (v := (0 : Int32)) hx hb dX4_readShows_5 (by decide) ?_
  refine lv_aload_n hx hb dX4_readShows_6 rfl (lv_at hl 1 rfl) ?_
  refine gt_X2_0 C0 hw hk1 iX4_readShows_X2 (by decide +kernel) dX4_readShows_7 ?_
  refine gt_X0_1 C0 hw (xD_1_1 hk1) iX4_readShows_X0 (by decide +kernel) dX4_readShows_10 ?_
  refine lv_iconst (v := (1 : Int32)) hx hb dX4_readShows_13 (by decide) ?_
  refine lv_isub hx hb dX4_readShows_14 ?_
  obtain ⟨o2, hco2, h⟩ := q_bind h
  refine q_calli hw (va_runS (As := [.ref (ad 23), .int (0 : Int32), .int ((o1.1 (k1 + 1) 1) - (1 : Int32))]) (rest := []) C0 (kX4_numberWithin hco2 _) (va_cwS 3 hts gX4_readShows_X4_numberWithin rfl rfl rfl eX4_numberWithin ⟨(Nat.le_of_ble_eq_true rfl), (Nat.le_of_ble_eq_true rfl)⟩) ⟨q_blind, q_pre hw⟩ rfl rfl hl.1 rfl (lv_room (Nat.le_of_ble_eq_true rfl)) dX4_readShows_15 ⟨Nat.zero_le _, Nat.zero_le _⟩) (fun H locs hw => ?_)
  refine lv_istore_n (lv' := [(2, .int o2.1), (0, .ref (ad 23)), (1, .ref (ad k1))]) hx hb dX4_readShows_18 rfl hl (by decide) rfl (fun ls hl => ?_)
  refine lv_iload_n hx hb dX4_readShows_19 rfl (lv_at hl 0 rfl) ?_
  refine lv_iconst (v := (-1 : Int32)) hx hb dX4_readShows_20 (by decide) ?_
  refine lv_icmp_ne (tgt := 26) hx hb dX4_readShows_21 (by decide) (fun c3 => ?_) (fun c3 => ?_)
  · replace h := q_f h c3
    refine lv_aload_n hx hb dX4_readShows_26 rfl (lv_at hl 1 rfl) ?_
    refine lv_iconst (v := (0 : Int32)) hx hb dX4_readShows_27 (by decide) ?_
    refine lv_bipush (v := (9 : Int32)) hx hb dX4_readShows_28 (by decide) ?_
    obtain ⟨o4, hco4, h⟩ := q_bind h
    refine q_calli hw (va_runS (As := [.ref (ad 23), .int (0 : Int32), .int (9 : Int32)]) (rest := []) C0 (kX4_numberWithin hco4 _) (va_cwS 3 hts gX4_readShows_X4_numberWithin rfl rfl rfl eX4_numberWithin ⟨(Nat.le_of_ble_eq_true rfl), (Nat.le_of_ble_eq_true rfl)⟩) ⟨q_blind, q_pre hw⟩ rfl rfl hl.1 rfl (lv_room (Nat.le_of_ble_eq_true rfl)) dX4_readShows_30 ⟨Nat.zero_le _, Nat.zero_le _⟩) (fun H locs hw => ?_)
    refine lv_istore_n (lv' := [(3, .int o4.1), (2, .int o2.1), (0, .ref (ad 23)), (1, .ref (ad k1))]) hx hb dX4_readShows_33 rfl hl (by decide) rfl (fun ls hl => ?_)
    refine lv_iload_n hx hb dX4_readShows_34 rfl (lv_at hl 0 rfl) ?_
    refine lv_iconst (v := (-1 : Int32)) hx hb dX4_readShows_35 (by decide) ?_
    refine lv_icmp_eq (tgt := 45) hx hb dX4_readShows_36 (by decide) (fun c5 => ?_) (fun c5 => ?_)
    · replace h := q_t h c5
      refine lv_iload_n hx hb dX4_readShows_45 rfl (lv_at hl 0 rfl) ?_
      refine lv_iconst (v := (-1 : Int32)) hx hb dX4_readShows_46 (by decide) ?_
      refine lv_icmp_eq (tgt := 54) hx hb dX4_readShows_47 (by decide) (fun c6 => ?_) (fun c6 => ?_)
      · replace h := q_t h c6
        refine lv_iconst (v := (0 : Int32)) hx hb dX4_readShows_54 (by decide) ?_
        exact q_zret h C0 hr rfl hlk hw dX4_readShows_55
      · replace h := q_f h c6
        refine lv_iconst (v := (1 : Int32)) hx hb dX4_readShows_50 (by decide) ?_
        refine lv_goto (tgt := 55) hx hb dX4_readShows_51 (by decide) ?_
        exact q_zret h C0 hr rfl hlk hw dX4_readShows_55
    · replace h := q_f h c5
      refine lv_aload_n hx hb dX4_readShows_39 rfl (lv_at hl 3 rfl) ?_
      refine lv_iload_n hx hb dX4_readShows_40 rfl (lv_at hl 1 rfl) ?_
      refine lv_iload_n hx hb dX4_readShows_41 rfl (lv_at hl 0 rfl) ?_
      obtain ⟨o7, hco7, h⟩ := q_bind h
      refine q_callv hw (va_runV (As := [.int o2.1, .int o4.1]) (rest := []) C0 (kX2_putShows hk1 hco7 _) (cwV 2 hts gX4_readShows_X2_putShows rfl rfl rfl eX2_putShows ⟨(Nat.le_of_ble_eq_true rfl), (Nat.le_of_ble_eq_true rfl)⟩) ⟨q_blind, q_recv hw (xN_1 hk1) (xE_1 hk1) rfl, q_pre hw⟩ rfl rfl hl.1 rfl (lv_room (Nat.le_of_ble_eq_true rfl)) dX4_readShows_42 ⟨Nat.zero_le _, Nat.zero_le _⟩) (fun H locs hw => ?_)
      refine lv_iload_n hx hb dX4_readShows_45 rfl (lv_at hl 0 rfl) ?_
      refine lv_iconst (v := (-1 : Int32)) hx hb dX4_readShows_46 (by decide) ?_
      refine lv_icmp_eq (tgt := 54) hx hb dX4_readShows_47 (by decide) (fun c8 => ?_) (fun c8 => ?_)
      · replace h := q_t h c8
        refine lv_iconst (v := (0 : Int32)) hx hb dX4_readShows_54 (by decide) ?_
        exact q_zret h C0 hr rfl hlk hw dX4_readShows_55
      · replace h := q_f h c8
        refine lv_iconst (v := (1 : Int32)) hx hb dX4_readShows_50 (by decide) ?_
        refine lv_goto (tgt := 55) hx hb dX4_readShows_51 (by decide) ?_
        exact q_zret h C0 hr rfl hlk hw dX4_readShows_55
  · replace h := q_t h c3
    refine lv_iconst (v := (0 : Int32)) hx hb dX4_readShows_24 (by decide) ?_
    exact q_zret h C0 hr rfl hlk hw dX4_readShows_25
-- X4_readSize readSize(LMouldThatComesOff$Tape;LMouldThatComesOff$Mould;)Z
theorem eX2_clearTo : yX2_clearTo.cls = RX2 ∧ yX2_clearTo.cls ≠ "java/lang/invoke/MethodHandle" ∧ yX2_clearTo.cls ≠ "java/lang/invoke/VarHandle" ∧ (parseMethodDescriptor yX2_clearTo.desc).map (fun d => d.parameters.length) = some 1 := by decide +kernel
set_option maxHeartbeats 4000000 in
set_option maxRecDepth 100000 in
theorem kX4_readSize {k1 : Nat} (hk1 : xK k1 = 1) {σ : q_M} {out : Int32 × q_M} (h : fX4_readSize k1 σ = some out) : q_Mi l (gX D cI cJ cS ad adK adV) yX4_readSize wsX4_readSize { frames := 3, cells := 0, slots := 0, locals := 71 } [.ref (ad 23), .ref (ad k1)] σ out := by
  refine q_Mi_of (cc := cX4_readSize) (maxL := 3) (ret := (some .boolean)) (by decide) rfl (Nat.le_of_ble_eq_true rfl) ?_
  intro p e s m below meth c ls C0 hr hlk hl hw
  obtain ⟨hx, hb, hml, hown, hts⟩ := id C0
  replace hl : lv_has ls 3 [(0, .ref (ad 23)), (1, .ref (ad k1))] := hl
  unfold fX4_readSize at h
  refine lv_aload_n hx hb dX4_readSize_0 rfl (lv_at hl 0 rfl) ?_
  obtain ⟨o1, hco1, h⟩ := q_bind h
  refine q_callv hw (va_runV (As := []) (rest := []) C0 (kX7_advance hco1 _) (cwV 0 hts gX4_readSize_X7_advance rfl rfl rfl eX7_advance ⟨(Nat.le_of_ble_eq_true rfl), (Nat.le_of_ble_eq_true rfl)⟩) ⟨q_blind, q_recv hw (xN_9 xF_23) (xE_9 xF_23) rfl, q_pre hw⟩ rfl rfl hl.1 rfl (lv_room (Nat.le_of_ble_eq_true rfl)) dX4_readSize_1 ⟨Nat.zero_le _, Nat.zero_le _⟩) (fun H locs hw => ?_)
  refine lv_aload_n hx hb dX4_readSize_4 rfl (lv_at hl 0 rfl) ?_
  refine lv_iconst (v := (2 : Int32)) hx hb dX4_readSize_5 (by decide) ?_
  refine lv_iconst (v := (4 : Int32)) hx hb dX4_readSize_6 (by decide) ?_
  obtain ⟨o2, hco2, h⟩ := q_bind h
  refine q_calli hw (va_runS (As := [.ref (ad 23), .int (2 : Int32), .int (4 : Int32)]) (rest := []) C0 (kX4_numberWithin hco2 _) (va_cwS 3 hts gX4_readSize_X4_numberWithin rfl rfl rfl eX4_numberWithin ⟨(Nat.le_of_ble_eq_true rfl), (Nat.le_of_ble_eq_true rfl)⟩) ⟨q_blind, q_pre hw⟩ rfl rfl hl.1 rfl (lv_room (Nat.le_of_ble_eq_true rfl)) dX4_readSize_7 ⟨Nat.zero_le _, Nat.zero_le _⟩) (fun H locs hw => ?_)
  refine lv_istore_n (lv' := [(2, .int o2.1), (0, .ref (ad 23)), (1, .ref (ad k1))]) hx hb dX4_readSize_10 rfl hl (by decide) rfl (fun ls hl => ?_)
  refine lv_iload_n hx hb dX4_readSize_11 rfl (lv_at hl 0 rfl) ?_
  refine lv_iconst (v := (-1 : Int32)) hx hb dX4_readSize_12 (by decide) ?_
  refine lv_icmp_eq (tgt := 21) hx hb dX4_readSize_13 (by decide) (fun c3 => ?_) (fun c3 => ?_)
  · replace h := q_t h c3
    refine lv_iload_n hx hb dX4_readSize_21 rfl (lv_at hl 0 rfl) ?_
    refine lv_iconst (v := (-1 : Int32)) hx hb dX4_readSize_22 (by decide) ?_
    refine lv_icmp_eq (tgt := 30) hx hb dX4_readSize_23 (by decide) (fun c4 => ?_) (fun c4 => ?_)
    · replace h := q_t h c4
      refine lv_iconst (v := (0 : Int32)) hx hb dX4_readSize_30 (by decide) ?_
      exact q_zret h C0 hr rfl hlk hw dX4_readSize_31
    · replace h := q_f h c4
      refine lv_iconst (v := (1 : Int32)) hx hb dX4_readSize_26 (by decide) ?_
      refine lv_goto (tgt := 31) hx hb dX4_readSize_27 (by decide) ?_
      exact q_zret h C0 hr rfl hlk hw dX4_readSize_31
  · replace h := q_f h c3
    refine lv_aload_n hx hb dX4_readSize_16 rfl (lv_at hl 2 rfl) ?_
    refine lv_iload_n hx hb dX4_readSize_17 rfl (lv_at hl 0 rfl) ?_
    obtain ⟨o5, hco5, h⟩ := q_bind h
    refine q_callv hw (va_runV (As := [.int o2.1]) (rest := []) C0 (kX2_clearTo hk1 hco5 _) (cwV 1 hts gX4_readSize_X2_clearTo rfl rfl rfl eX2_clearTo ⟨(Nat.le_of_ble_eq_true rfl), (Nat.le_of_ble_eq_true rfl)⟩) ⟨q_blind, q_recv hw (xN_1 hk1) (xE_1 hk1) rfl, q_pre hw⟩ rfl rfl hl.1 rfl (lv_room (Nat.le_of_ble_eq_true rfl)) dX4_readSize_18 ⟨Nat.zero_le _, Nat.zero_le _⟩) (fun H locs hw => ?_)
    refine lv_iload_n hx hb dX4_readSize_21 rfl (lv_at hl 0 rfl) ?_
    refine lv_iconst (v := (-1 : Int32)) hx hb dX4_readSize_22 (by decide) ?_
    refine lv_icmp_eq (tgt := 30) hx hb dX4_readSize_23 (by decide) (fun c6 => ?_) (fun c6 => ?_)
    · replace h := q_t h c6
      refine lv_iconst (v := (0 : Int32)) hx hb dX4_readSize_30 (by decide) ?_
      exact q_zret h C0 hr rfl hlk hw dX4_readSize_31
    · replace h := q_f h c6
      refine lv_iconst (v := (1 : Int32)) hx hb dX4_readSize_26 (by decide) ?_
      refine lv_goto (tgt := 31) hx hb dX4_readSize_27 (by decide) ?_
      exact q_zret h C0 hr rfl hlk hw dX4_readSize_31
-- X4_readWear readWear(LMouldThatComesOff$Tape;LMouldThatComesOff$Mould;)Z
theorem iX4_readWear_X2 : ∀ w ∈ wsX20, w ∈ wsX4_readWear := by decide +kernel
set_option maxHeartbeats 4000000 in
set_option maxRecDepth 100000 in
theorem kX4_readWear {k1 : Nat} (hk1 : xK k1 = 1) {σ : q_M} {out : Int32 × q_M} (h : fX4_readWear k1 σ = some out) : q_Mi l (gX D cI cJ cS ad adK adV) yX4_readWear wsX4_readWear { frames := 3, cells := 0, slots := 0, locals := 63 } [.ref (ad 23), .ref (ad k1)] σ out := by
  refine q_Mi_of (cc := cX4_readWear) (maxL := 3) (ret := (some .boolean)) (by decide) rfl (Nat.le_of_ble_eq_true rfl) ?_
  intro p e s m below meth c ls C0 hr hlk hl hw
  obtain ⟨hx, hb, hml, hown, hts⟩ := id C0
  replace hl : lv_has ls 3 [(0, .ref (ad 23)), (1, .ref (ad k1))] := hl
  unfold fX4_readWear at h
  refine lv_aload_n hx hb dX4_readWear_0 rfl (lv_at hl 0 rfl) ?_
  obtain ⟨o1, hco1, h⟩ := q_bind h
  refine q_callv hw (va_runV (As := []) (rest := []) C0 (kX7_advance hco1 _) (cwV 0 hts gX4_readWear_X7_advance rfl rfl rfl eX7_advance ⟨(Nat.le_of_ble_eq_true rfl), (Nat.le_of_ble_eq_true rfl)⟩) ⟨q_blind, q_recv hw (xN_9 xF_23) (xE_9 xF_23) rfl, q_pre hw⟩ rfl rfl hl.1 rfl (lv_room (Nat.le_of_ble_eq_true rfl)) dX4_readWear_1 ⟨Nat.zero_le _, Nat.zero_le _⟩) (fun H locs hw => ?_)
  refine lv_aload_n hx hb dX4_readWear_4 rfl (lv_at hl 0 rfl) ?_
  refine lv_iconst (v := (1 : Int32)) hx hb dX4_readWear_5 (by decide) ?_
  refine lv_sipush (v := (999 : Int32)) hx hb dX4_readWear_6 (by decide) ?_
  obtain ⟨o2, hco2, h⟩ := q_bind h
  refine q_calli hw (va_runS (As := [.ref (ad 23), .int (1 : Int32), .int (999 : Int32)]) (rest := []) C0 (kX4_numberWithin hco2 _) (va_cwS 3 hts gX4_readWear_X4_numberWithin rfl rfl rfl eX4_numberWithin ⟨(Nat.le_of_ble_eq_true rfl), (Nat.le_of_ble_eq_true rfl)⟩) ⟨q_blind, q_pre hw⟩ rfl rfl hl.1 rfl (lv_room (Nat.le_of_ble_eq_true rfl)) dX4_readWear_9 ⟨Nat.zero_le _, Nat.zero_le _⟩) (fun H locs hw => ?_)
  refine lv_istore_n (lv' := [(2, .int o2.1), (0, .ref (ad 23)), (1, .ref (ad k1))]) hx hb dX4_readWear_12 rfl hl (by decide) rfl (fun ls hl => ?_)
  refine lv_iload_n hx hb dX4_readWear_13 rfl (lv_at hl 0 rfl) ?_
  refine lv_iconst (v := (-1 : Int32)) hx hb dX4_readWear_14 (by decide) ?_
  refine lv_icmp_eq (tgt := 23) hx hb dX4_readWear_15 (by decide) (fun c3 => ?_) (fun c3 => ?_)
  · replace h := q_t h c3
    refine lv_iload_n hx hb dX4_readWear_23 rfl (lv_at hl 0 rfl) ?_
    refine lv_iconst (v := (-1 : Int32)) hx hb dX4_readWear_24 (by decide) ?_
    refine lv_icmp_eq (tgt := 32) hx hb dX4_readWear_25 (by decide) (fun c4 => ?_) (fun c4 => ?_)
    · replace h := q_t h c4
      refine lv_iconst (v := (0 : Int32)) hx hb dX4_readWear_32 (by decide) ?_
      exact q_zret h C0 hr rfl hlk hw dX4_readWear_33
    · replace h := q_f h c4
      refine lv_iconst (v := (1 : Int32)) hx hb dX4_readWear_28 (by decide) ?_
      refine lv_goto (tgt := 33) hx hb dX4_readWear_29 (by decide) ?_
      exact q_zret h C0 hr rfl hlk hw dX4_readWear_33
  · replace h := q_f h c3
    refine lv_aload_n hx hb dX4_readWear_18 rfl (lv_at hl 2 rfl) ?_
    refine lv_iload_n hx hb dX4_readWear_19 rfl (lv_at hl 0 rfl) ?_
    refine pt_X2_5 C0 hw hk1 iX4_readWear_X2 (by decide +kernel) dX4_readWear_20 (fun σ5 H locs e_σ5 hw => ?_)
    replace h := q_let_at e_σ5 h
    refine lv_iload_n hx hb dX4_readWear_23 rfl (lv_at hl 0 rfl) ?_
    refine lv_iconst (v := (-1 : Int32)) hx hb dX4_readWear_24 (by decide) ?_
    refine lv_icmp_eq (tgt := 32) hx hb dX4_readWear_25 (by decide) (fun c6 => ?_) (fun c6 => ?_)
    · replace h := q_t h c6
      refine lv_iconst (v := (0 : Int32)) hx hb dX4_readWear_32 (by decide) ?_
      exact q_zret h C0 hr rfl hlk hw dX4_readWear_33
    · replace h := q_f h c6
      refine lv_iconst (v := (1 : Int32)) hx hb dX4_readWear_28 (by decide) ?_
      refine lv_goto (tgt := 33) hx hb dX4_readWear_29 (by decide) ?_
      exact q_zret h C0 hr rfl hlk hw dX4_readWear_33
-- X4_statement statement(LMouldThatComesOff$Tape;LMouldThatComesOff$Mould;)Z
theorem iX4_statement_X2 : ∀ w ∈ wsX20, w ∈ wsX4_statement := by decide +kernel
theorem eX4_readBox : yX4_readBox.cls ≠ "java/lang/invoke/MethodHandle" ∧ yX4_readBox.cls ≠ "java/lang/invoke/VarHandle" ∧ (parseMethodDescriptor yX4_readBox.desc).map (fun d => d.parameters.length) = some 3 := by decide +kernel
theorem eX4_readHeavy : yX4_readHeavy.cls ≠ "java/lang/invoke/MethodHandle" ∧ yX4_readHeavy.cls ≠ "java/lang/invoke/VarHandle" ∧ (parseMethodDescriptor yX4_readHeavy.desc).map (fun d => d.parameters.length) = some 2 := by decide +kernel
theorem eX4_readPiece : yX4_readPiece.cls ≠ "java/lang/invoke/MethodHandle" ∧ yX4_readPiece.cls ≠ "java/lang/invoke/VarHandle" ∧ (parseMethodDescriptor yX4_readPiece.desc).map (fun d => d.parameters.length) = some 2 := by decide +kernel
theorem eX4_readShows : yX4_readShows.cls ≠ "java/lang/invoke/MethodHandle" ∧ yX4_readShows.cls ≠ "java/lang/invoke/VarHandle" ∧ (parseMethodDescriptor yX4_readShows.desc).map (fun d => d.parameters.length) = some 2 := by decide +kernel
theorem eX4_readSize : yX4_readSize.cls ≠ "java/lang/invoke/MethodHandle" ∧ yX4_readSize.cls ≠ "java/lang/invoke/VarHandle" ∧ (parseMethodDescriptor yX4_readSize.desc).map (fun d => d.parameters.length) = some 2 := by decide +kernel
theorem eX4_readWear : yX4_readWear.cls ≠ "java/lang/invoke/MethodHandle" ∧ yX4_readWear.cls ≠ "java/lang/invoke/VarHandle" ∧ (parseMethodDescriptor yX4_readWear.desc).map (fun d => d.parameters.length) = some 2 := by decide +kernel
set_option maxHeartbeats 4000000 in
set_option maxRecDepth 100000 in
theorem kX4_statement {k1 : Nat} (hk1 : xK k1 = 1) {σ : q_M} {out : Int32 × q_M} (h : fX4_statement k1 σ = some out) : q_Mi l (gX D cI cJ cS ad adK adV) yX4_statement wsX4_statement { frames := 6, cells := 0, slots := 0, locals := 134 } [.ref (ad 23), .ref (ad k1)] σ out := by
  refine q_Mi_of (cc := cX4_statement) (maxL := 2) (ret := (some .boolean)) (by decide) rfl (Nat.le_of_ble_eq_true rfl) ?_
  intro p e s m below meth c ls C0 hr hlk hl hw
  obtain ⟨hx, hb, hml, hown, hts⟩ := id C0
  replace hl : lv_has ls 2 [(0, .ref (ad 23)), (1, .ref (ad k1))] := hl
  unfold fX4_statement at h
  refine lv_aload_n hx hb dX4_statement_0 rfl (lv_at hl 0 rfl) ?_
  refine va_ldcS hx hb hown (q_Zr1 hw 0 (by decide)) dX4_statement_1 ?_
  obtain ⟨o1, hco1, h⟩ := q_bind h
  refine q_calli hw (va_runV (As := [.ref (adK 0)]) (rest := []) C0 (kX7_isWord (by decide) hco1 _) (cwV 1 hts gX4_statement_X7_isWord rfl rfl rfl eX7_isWord ⟨(Nat.le_of_ble_eq_true rfl), (Nat.le_of_ble_eq_true rfl)⟩) ⟨q_blind, q_recv hw (xN_9 xF_23) (xE_9 xF_23) rfl, q_pre hw⟩ rfl rfl hl.1 rfl (lv_room (Nat.le_of_ble_eq_true rfl)) dX4_statement_3 ⟨Nat.zero_le _, Nat.zero_le _⟩) (fun H locs hw => ?_)
  refine lv_if_eq (tgt := 15) hx hb dX4_statement_6 (by decide) (fun c2 => ?_) (fun c2 => ?_)
  · replace h := q_t h c2
    refine lv_aload_n hx hb dX4_statement_15 rfl (lv_at hl 0 rfl) ?_
    refine va_ldcS hx hb hown (q_Zr1 hw 1 (by decide)) dX4_statement_16 ?_
    obtain ⟨o3, hco3, h⟩ := q_bind h
    refine q_calli hw (va_runV (As := [.ref (adK 1)]) (rest := []) C0 (kX7_isWord (by decide) hco3 _) (cwV 1 hts gX4_statement_X7_isWord rfl rfl rfl eX7_isWord ⟨(Nat.le_of_ble_eq_true rfl), (Nat.le_of_ble_eq_true rfl)⟩) ⟨q_blind, q_recv hw (xN_9 xF_23) (xE_9 xF_23) rfl, q_pre hw⟩ rfl rfl hl.1 rfl (lv_room (Nat.le_of_ble_eq_true rfl)) dX4_statement_18 ⟨Nat.zero_le _, Nat.zero_le _⟩) (fun H locs hw => ?_)
    refine lv_if_eq (tgt := 31) hx hb dX4_statement_21 (by decide) (fun c4 => ?_) (fun c4 => ?_)
    · replace h := q_t h c4
      refine lv_aload_n hx hb dX4_statement_31 rfl (lv_at hl 0 rfl) ?_
      refine va_ldcS hx hb hown (q_Zr1 hw 2 (by decide)) dX4_statement_32 ?_
      obtain ⟨o5, hco5, h⟩ := q_bind h
      refine q_calli hw (va_runV (As := [.ref (adK 2)]) (rest := []) C0 (kX7_isWord (by decide) hco5 _) (cwV 1 hts gX4_statement_X7_isWord rfl rfl rfl eX7_isWord ⟨(Nat.le_of_ble_eq_true rfl), (Nat.le_of_ble_eq_true rfl)⟩) ⟨q_blind, q_recv hw (xN_9 xF_23) (xE_9 xF_23) rfl, q_pre hw⟩ rfl rfl hl.1 rfl (lv_room (Nat.le_of_ble_eq_true rfl)) dX4_statement_34 ⟨Nat.zero_le _, Nat.zero_le _⟩) (fun H locs hw => ?_)
      refine lv_if_eq (tgt := 47) hx hb dX4_statement_37 (by decide) (fun c6 => ?_) (fun c6 => ?_)
      · replace h := q_t h c6
        refine lv_aload_n hx hb dX4_statement_47 rfl (lv_at hl 0 rfl) ?_
        refine va_ldcS hx hb hown (q_Zr1 hw 3 (by decide)) dX4_statement_48 ?_
        obtain ⟨o7, hco7, h⟩ := q_bind h
        refine q_calli hw (va_runV (As := [.ref (adK 3)]) (rest := []) C0 (kX7_isWord (by decide) hco7 _) (cwV 1 hts gX4_statement_X7_isWord rfl rfl rfl eX7_isWord ⟨(Nat.le_of_ble_eq_true rfl), (Nat.le_of_ble_eq_true rfl)⟩) ⟨q_blind, q_recv hw (xN_9 xF_23) (xE_9 xF_23) rfl, q_pre hw⟩ rfl rfl hl.1 rfl (lv_room (Nat.le_of_ble_eq_true rfl)) dX4_statement_50 ⟨Nat.zero_le _, Nat.zero_le _⟩) (fun H locs hw => ?_)
        refine lv_if_eq (tgt := 62) hx hb dX4_statement_53 (by decide) (fun c8 => ?_) (fun c8 => ?_)
        · replace h := q_t h c8
          refine lv_aload_n hx hb dX4_statement_62 rfl (lv_at hl 0 rfl) ?_
          refine va_ldcS hx hb hown (q_Zr1 hw 4 (by decide)) dX4_statement_63 ?_
          obtain ⟨o9, hco9, h⟩ := q_bind h
          refine q_calli hw (va_runV (As := [.ref (adK 4)]) (rest := []) C0 (kX7_isWord (by decide) hco9 _) (cwV 1 hts gX4_statement_X7_isWord rfl rfl rfl eX7_isWord ⟨(Nat.le_of_ble_eq_true rfl), (Nat.le_of_ble_eq_true rfl)⟩) ⟨q_blind, q_recv hw (xN_9 xF_23) (xE_9 xF_23) rfl, q_pre hw⟩ rfl rfl hl.1 rfl (lv_room (Nat.le_of_ble_eq_true rfl)) dX4_statement_65 ⟨Nat.zero_le _, Nat.zero_le _⟩) (fun H locs hw => ?_)
          refine lv_if_eq (tgt := 93) hx hb dX4_statement_68 (by decide) (fun c10 => ?_) (fun c10 => ?_)
          · replace h := q_t h c10
            refine lv_aload_n hx hb dX4_statement_93 rfl (lv_at hl 0 rfl) ?_
            refine va_ldcS hx hb hown (q_Zr1 hw 5 (by decide)) dX4_statement_94 ?_
            obtain ⟨o11, hco11, h⟩ := q_bind h
            refine q_calli hw (va_runV (As := [.ref (adK 5)]) (rest := []) C0 (kX7_isWord (by decide) hco11 _) (cwV 1 hts gX4_statement_X7_isWord rfl rfl rfl eX7_isWord ⟨(Nat.le_of_ble_eq_true rfl), (Nat.le_of_ble_eq_true rfl)⟩) ⟨q_blind, q_recv hw (xN_9 xF_23) (xE_9 xF_23) rfl, q_pre hw⟩ rfl rfl hl.1 rfl (lv_room (Nat.le_of_ble_eq_true rfl)) dX4_statement_96 ⟨Nat.zero_le _, Nat.zero_le _⟩) (fun H locs hw => ?_)
            refine lv_if_eq (tgt := 108) hx hb dX4_statement_99 (by decide) (fun c12 => ?_) (fun c12 => ?_)
            · replace h := q_t h c12
              refine lv_aload_n hx hb dX4_statement_108 rfl (lv_at hl 0 rfl) ?_
              refine va_ldcS hx hb hown (q_Zr1 hw 6 (by decide)) dX4_statement_109 ?_
              obtain ⟨o13, hco13, h⟩ := q_bind h
              refine q_calli hw (va_runV (As := [.ref (adK 6)]) (rest := []) C0 (kX7_isWord (by decide) hco13 _) (cwV 1 hts gX4_statement_X7_isWord rfl rfl rfl eX7_isWord ⟨(Nat.le_of_ble_eq_true rfl), (Nat.le_of_ble_eq_true rfl)⟩) ⟨q_blind, q_recv hw (xN_9 xF_23) (xE_9 xF_23) rfl, q_pre hw⟩ rfl rfl hl.1 rfl (lv_room (Nat.le_of_ble_eq_true rfl)) dX4_statement_111 ⟨Nat.zero_le _, Nat.zero_le _⟩) (fun H locs hw => ?_)
              refine lv_if_eq (tgt := 123) hx hb dX4_statement_114 (by decide) (fun c14 => ?_) (fun c14 => ?_)
              · replace h := q_t h c14
                refine lv_aload_n hx hb dX4_statement_123 rfl (lv_at hl 0 rfl) ?_
                refine va_ldcS hx hb hown (q_Zr1 hw 7 (by decide)) dX4_statement_124 ?_
                obtain ⟨o15, hco15, h⟩ := q_bind h
                refine q_calli hw (va_runV (As := [.ref (adK 7)]) (rest := []) C0 (kX7_isWord (by decide) hco15 _) (cwV 1 hts gX4_statement_X7_isWord rfl rfl rfl eX7_isWord ⟨(Nat.le_of_ble_eq_true rfl), (Nat.le_of_ble_eq_true rfl)⟩) ⟨q_blind, q_recv hw (xN_9 xF_23) (xE_9 xF_23) rfl, q_pre hw⟩ rfl rfl hl.1 rfl (lv_room (Nat.le_of_ble_eq_true rfl)) dX4_statement_126 ⟨Nat.zero_le _, Nat.zero_le _⟩) (fun H locs hw => ?_)
                refine lv_if_eq (tgt := 144) hx hb dX4_statement_129 (by decide) (fun c16 => ?_) (fun c16 => ?_)
                · replace h := q_t h c16
                  refine lv_iconst (v := (0 : Int32)) hx hb dX4_statement_144 (by decide) ?_
                  exact q_zret h C0 hr rfl hlk hw dX4_statement_145
                · replace h := q_f h c16
                  refine lv_aload_n hx hb dX4_statement_132 rfl (lv_at hl 0 rfl) ?_
                  refine lv_aload_n hx hb dX4_statement_133 rfl (lv_at hl 1 rfl) ?_
                  obtain ⟨o17, hco17, h⟩ := q_bind h
                  refine q_calli hw (va_runS (As := [.ref (ad 23), .ref (ad k1)]) (rest := []) C0 (kX4_readWear hk1 hco17 _) (va_cwS 2 hts gX4_statement_X4_readWear rfl rfl rfl eX4_readWear ⟨(Nat.le_of_ble_eq_true rfl), (Nat.le_of_ble_eq_true rfl)⟩) ⟨q_blind, q_pre hw⟩ rfl rfl hl.1 rfl (lv_room (Nat.le_of_ble_eq_true rfl)) dX4_statement_134 ⟨Nat.zero_le _, Nat.zero_le _⟩) (fun H locs hw => ?_)
                  refine lv_if_eq (tgt := 144) hx hb dX4_statement_137 (by decide) (fun c18 => ?_) (fun c18 => ?_)
                  · replace h := q_t h c18
                    refine lv_iconst (v := (0 : Int32)) hx hb dX4_statement_144 (by decide) ?_
                    exact q_zret h C0 hr rfl hlk hw dX4_statement_145
                  · replace h := q_f h c18
                    refine lv_iconst (v := (1 : Int32)) hx hb dX4_statement_140 (by decide) ?_
                    refine lv_goto (tgt := 145) hx hb dX4_statement_141 (by decide) ?_
                    exact q_zret h C0 hr rfl hlk hw dX4_statement_145
              · replace h := q_f h c14
                refine lv_aload_n hx hb dX4_statement_117 rfl (lv_at hl 0 rfl) ?_
                refine lv_aload_n hx hb dX4_statement_118 rfl (lv_at hl 1 rfl) ?_
                obtain ⟨o19, hco19, h⟩ := q_bind h
                refine q_calli hw (va_runS (As := [.ref (ad 23), .ref (ad k1)]) (rest := []) C0 (kX4_readHeavy hk1 hco19 _) (va_cwS 2 hts gX4_statement_X4_readHeavy rfl rfl rfl eX4_readHeavy ⟨(Nat.le_of_ble_eq_true rfl), (Nat.le_of_ble_eq_true rfl)⟩) ⟨q_blind, q_pre hw⟩ rfl rfl hl.1 rfl (lv_room (Nat.le_of_ble_eq_true rfl)) dX4_statement_119 ⟨Nat.zero_le _, Nat.zero_le _⟩) (fun H locs hw => ?_)
                obtain ⟨b20, h⟩ := q_if h
                exact q_zret h C0 hr (q_nz b20) hlk hw dX4_statement_122
            · replace h := q_f h c12
              refine lv_aload_n hx hb dX4_statement_102 rfl (lv_at hl 0 rfl) ?_
              refine lv_aload_n hx hb dX4_statement_103 rfl (lv_at hl 1 rfl) ?_
              obtain ⟨o21, hco21, h⟩ := q_bind h
              refine q_calli hw (va_runS (As := [.ref (ad 23), .ref (ad k1)]) (rest := []) C0 (kX4_readShows hk1 hco21 _) (va_cwS 2 hts gX4_statement_X4_readShows rfl rfl rfl eX4_readShows ⟨(Nat.le_of_ble_eq_true rfl), (Nat.le_of_ble_eq_true rfl)⟩) ⟨q_blind, q_pre hw⟩ rfl rfl hl.1 rfl (lv_room (Nat.le_of_ble_eq_true rfl)) dX4_statement_104 ⟨Nat.zero_le _, Nat.zero_le _⟩) (fun H locs hw => ?_)
              obtain ⟨b22, h⟩ := q_if h
              exact q_zret h C0 hr (q_nz b22) hlk hw dX4_statement_107
          · replace h := q_f h c10
            refine lv_aload_n hx hb dX4_statement_71 rfl (lv_at hl 1 rfl) ?_
            refine gt_X2_2 C0 hw hk1 iX4_statement_X2 (by decide +kernel) dX4_statement_72 ?_
            refine lv_if_le (tgt := 91) hx hb dX4_statement_75 (by decide) (fun c23 => ?_) (fun c23 => ?_)
            · replace h := q_t h c23
              refine lv_iconst (v := (0 : Int32)) hx hb dX4_statement_91 (by decide) ?_
              exact q_zret h C0 hr rfl hlk hw dX4_statement_92
            · replace h := q_f h c23
              refine lv_aload_n hx hb dX4_statement_78 rfl (lv_at hl 0 rfl) ?_
              refine lv_aload_n hx hb dX4_statement_79 rfl (lv_at hl 1 rfl) ?_
              refine lv_iconst (v := (2 : Int32)) hx hb dX4_statement_80 (by decide) ?_
              obtain ⟨o24, hco24, h⟩ := q_bind h
              refine q_calli hw (va_runS (As := [.ref (ad 23), .ref (ad k1), .int (2 : Int32)]) (rest := []) C0 (kX4_readBox hk1 hco24 _) (va_cwS 3 hts gX4_statement_X4_readBox rfl rfl rfl eX4_readBox ⟨(Nat.le_of_ble_eq_true rfl), (Nat.le_of_ble_eq_true rfl)⟩) ⟨q_blind, q_pre hw⟩ rfl rfl hl.1 rfl (lv_room (Nat.le_of_ble_eq_true rfl)) dX4_statement_81 ⟨Nat.zero_le _, Nat.zero_le _⟩) (fun H locs hw => ?_)
              refine lv_if_eq (tgt := 91) hx hb dX4_statement_84 (by decide) (fun c25 => ?_) (fun c25 => ?_)
              · replace h := q_t h c25
                refine lv_iconst (v := (0 : Int32)) hx hb dX4_statement_91 (by decide) ?_
                exact q_zret h C0 hr rfl hlk hw dX4_statement_92
              · replace h := q_f h c25
                refine lv_iconst (v := (1 : Int32)) hx hb dX4_statement_87 (by decide) ?_
                refine lv_goto (tgt := 92) hx hb dX4_statement_88 (by decide) ?_
                exact q_zret h C0 hr rfl hlk hw dX4_statement_92
        · replace h := q_f h c8
          refine lv_aload_n hx hb dX4_statement_56 rfl (lv_at hl 0 rfl) ?_
          refine lv_aload_n hx hb dX4_statement_57 rfl (lv_at hl 1 rfl) ?_
          obtain ⟨o26, hco26, h⟩ := q_bind h
          refine q_calli hw (va_runS (As := [.ref (ad 23), .ref (ad k1)]) (rest := []) C0 (kX4_readPiece hk1 hco26 _) (va_cwS 2 hts gX4_statement_X4_readPiece rfl rfl rfl eX4_readPiece ⟨(Nat.le_of_ble_eq_true rfl), (Nat.le_of_ble_eq_true rfl)⟩) ⟨q_blind, q_pre hw⟩ rfl rfl hl.1 rfl (lv_room (Nat.le_of_ble_eq_true rfl)) dX4_statement_58 ⟨Nat.zero_le _, Nat.zero_le _⟩) (fun H locs hw => ?_)
          obtain ⟨b27, h⟩ := q_if h
          exact q_zret h C0 hr (q_nz b27) hlk hw dX4_statement_61
      · replace h := q_f h c6
        refine lv_aload_n hx hb dX4_statement_40 rfl (lv_at hl 0 rfl) ?_
        refine lv_aload_n hx hb dX4_statement_41 rfl (lv_at hl 1 rfl) ?_
        refine lv_iconst (v := (1 : Int32)) hx hb dX4_statement_42 (by decide) ?_
        obtain ⟨o28, hco28, h⟩ := q_bind h
        refine q_calli hw (va_runS (As := [.ref (ad 23), .ref (ad k1), .int (1 : Int32)]) (rest := []) C0 (kX4_readBox hk1 hco28 _) (va_cwS 3 hts gX4_statement_X4_readBox rfl rfl rfl eX4_readBox ⟨(Nat.le_of_ble_eq_true rfl), (Nat.le_of_ble_eq_true rfl)⟩) ⟨q_blind, q_pre hw⟩ rfl rfl hl.1 rfl (lv_room (Nat.le_of_ble_eq_true rfl)) dX4_statement_43 ⟨Nat.zero_le _, Nat.zero_le _⟩) (fun H locs hw => ?_)
        obtain ⟨b29, h⟩ := q_if h
        exact q_zret h C0 hr (q_nz b29) hlk hw dX4_statement_46
    · replace h := q_f h c4
      refine lv_aload_n hx hb dX4_statement_24 rfl (lv_at hl 0 rfl) ?_
      refine lv_aload_n hx hb dX4_statement_25 rfl (lv_at hl 1 rfl) ?_
      refine lv_iconst (v := (0 : Int32)) hx hb dX4_statement_26 (by decide) ?_
      obtain ⟨o30, hco30, h⟩ := q_bind h
      refine q_calli hw (va_runS (As := [.ref (ad 23), .ref (ad k1), .int (0 : Int32)]) (rest := []) C0 (kX4_readBox hk1 hco30 _) (va_cwS 3 hts gX4_statement_X4_readBox rfl rfl rfl eX4_readBox ⟨(Nat.le_of_ble_eq_true rfl), (Nat.le_of_ble_eq_true rfl)⟩) ⟨q_blind, q_pre hw⟩ rfl rfl hl.1 rfl (lv_room (Nat.le_of_ble_eq_true rfl)) dX4_statement_27 ⟨Nat.zero_le _, Nat.zero_le _⟩) (fun H locs hw => ?_)
      obtain ⟨b31, h⟩ := q_if h
      exact q_zret h C0 hr (q_nz b31) hlk hw dX4_statement_30
  · replace h := q_f h c2
    refine lv_aload_n hx hb dX4_statement_9 rfl (lv_at hl 0 rfl) ?_
    refine lv_aload_n hx hb dX4_statement_10 rfl (lv_at hl 1 rfl) ?_
    obtain ⟨o32, hco32, h⟩ := q_bind h
    refine q_calli hw (va_runS (As := [.ref (ad 23), .ref (ad k1)]) (rest := []) C0 (kX4_readSize hk1 hco32 _) (va_cwS 2 hts gX4_statement_X4_readSize rfl rfl rfl eX4_readSize ⟨(Nat.le_of_ble_eq_true rfl), (Nat.le_of_ble_eq_true rfl)⟩) ⟨q_blind, q_pre hw⟩ rfl rfl hl.1 rfl (lv_room (Nat.le_of_ble_eq_true rfl)) dX4_statement_11 ⟨Nat.zero_le _, Nat.zero_le _⟩) (fun H locs hw => ?_)
    obtain ⟨b33, h⟩ := q_if h
    exact q_zret h C0 hr (q_nz b33) hlk hw dX4_statement_14
-- X4_readAll readAll(LMouldThatComesOff$Tape;LMouldThatComesOff$Mould;)I
theorem iX4_readAll_X7 : ∀ w ∈ wsX70, w ∈ wsX4_readAll := by decide +kernel
theorem eX4_statement : yX4_statement.cls ≠ "java/lang/invoke/MethodHandle" ∧ yX4_statement.cls ≠ "java/lang/invoke/VarHandle" ∧ (parseMethodDescriptor yX4_statement.desc).map (fun d => d.parameters.length) = some 2 := by decide +kernel
theorem eX7_rewind : yX7_rewind.cls = RX7 ∧ yX7_rewind.cls ≠ "java/lang/invoke/MethodHandle" ∧ yX7_rewind.cls ≠ "java/lang/invoke/VarHandle" ∧ (parseMethodDescriptor yX7_rewind.desc).map (fun d => d.parameters.length) = some 0 := by decide +kernel
set_option maxHeartbeats 4000000 in
set_option maxRecDepth 100000 in
theorem tX4_readAll_c6 {k1 : Nat} (hk1 : xK k1 = 1) (C0 : CallFix p m c cX4_readAll 3 s args wsX4_readAll RX4) (hr : meth.sig.returnType = (some .int)) (hlk : meth.locks = false) {out : Int32 × q_M}  : ∀ n : Nat, ∀ (v2 : Int32) (σ : q_M) (H : Heap) (locs : List Loc) (ls : Array Slot), q_H (gX D cI cJ cS ad adK adV) (q_A (gX D cI cJ cS ad adK adV) s.heap.size) s σ H locs → lv_has ls 3 [(0, .ref (ad 23)), (1, .ref (ad k1)), (2, .int v2)] → fX4_readAll_c6 k1 n v2 σ = some out → W p l e { frames := 7, cells := 0, slots := 0, locals := 155 } s m args below meth c H locs 0 0 (MQ below (q_Ri (gX D cI cJ cS ad adK adV) (q_A (gX D cI cJ cS ad adK adV) s.heap.size) out) args s 0 0 (q_A (gX D cI cJ cS ad adK adV) s.heap.size)) (F0 m 6 ls []) := by
  obtain ⟨hx, hb, hml, hown, hts⟩ := id C0
  intro n
  induction n with
  | zero =>
    intro v2 σ H locs ls  hw hl h
    cases (show (none : Option (Int32 × q_M)) = some out from h)
  | succ n hrec6 =>
    intro v2 σ H locs ls  hw hl h
    replace h : fX4_readAll_c6b k1 (fX4_readAll_c6 k1 n) v2 σ = some out := h
    unfold fX4_readAll_c6b at h
    refine lv_iload_n hx hb dX4_readAll_6 rfl (lv_at hl 2 rfl) ?_
    refine lv_sipush (v := (250 : Int32)) hx hb dX4_readAll_7 (by decide) ?_
    refine lv_icmp_gt (tgt := 52) hx hb dX4_readAll_10 (by decide) (fun c1 => ?_) (fun c1 => ?_)
    · replace h := q_t h c1
      refine lv_iconst (v := (-1 : Int32)) hx hb dX4_readAll_52 (by decide) ?_
      exact q_iret h C0 hr hlk hw dX4_readAll_53
    · replace h := q_f h c1
      refine lv_aload_n hx hb dX4_readAll_13 rfl (lv_at hl 0 rfl) ?_
      refine lv_aload_n hx hb dX4_readAll_14 rfl (lv_at hl 1 rfl) ?_
      obtain ⟨o2, hco2, h⟩ := q_bind h
      refine q_calli hw (va_runS (As := [.ref (ad 23), .ref (ad k1)]) (rest := []) C0 (kX4_statement hk1 hco2 _) (va_cwS 2 hts gX4_readAll_X4_statement rfl rfl rfl eX4_statement ⟨(Nat.le_of_ble_eq_true rfl), (Nat.le_of_ble_eq_true rfl)⟩) ⟨q_blind, q_pre hw⟩ rfl rfl hl.1 rfl (lv_room (Nat.le_of_ble_eq_true rfl)) dX4_readAll_15 ⟨Nat.zero_le _, Nat.zero_le _⟩) (fun H locs hw => ?_)
      refine lv_if_ne (tgt := 23) hx hb dX4_readAll_18 (by decide) (fun c3 => ?_) (fun c3 => ?_)
      · replace h := q_f h c3
        refine lv_aload_n hx hb dX4_readAll_23 rfl (lv_at hl 0 rfl) ?_
        refine gt_X7_2 C0 hw xF_23 iX4_readAll_X7 (by decide +kernel) dX4_readAll_24 ?_
        refine lv_if_ne (tgt := 32) hx hb dX4_readAll_27 (by decide) (fun c4 => ?_) (fun c4 => ?_)
        · replace h := q_f h c4
          refine lv_aload_n hx hb dX4_readAll_32 rfl (lv_at hl 0 rfl) ?_
          refine gt_X7_2 C0 hw xF_23 iX4_readAll_X7 (by decide +kernel) dX4_readAll_33 ?_
          refine lv_iconst (v := (3 : Int32)) hx hb dX4_readAll_36 (by decide) ?_
          refine lv_icmp_eq (tgt := 42) hx hb dX4_readAll_37 (by decide) (fun c5 => ?_) (fun c5 => ?_)
          · replace h := q_t h c5
            refine lv_aload_n hx hb dX4_readAll_42 rfl (lv_at hl 0 rfl) ?_
            obtain ⟨o6, hco6, h⟩ := q_bind h
            refine q_callv hw (va_runV (As := []) (rest := []) C0 (kX7_advance hco6 _) (cwV 0 hts gX4_readAll_X7_advance rfl rfl rfl eX7_advance ⟨(Nat.le_of_ble_eq_true rfl), (Nat.le_of_ble_eq_true rfl)⟩) ⟨q_blind, q_recv hw (xN_9 xF_23) (xE_9 xF_23) rfl, q_pre hw⟩ rfl rfl hl.1 rfl (lv_room (Nat.le_of_ble_eq_true rfl)) dX4_readAll_43 ⟨Nat.zero_le _, Nat.zero_le _⟩) (fun H locs hw => ?_)
            refine lv_iinc (v := (v2 + (1 : Int32))) (lv' := [(2, .int (v2 + (1 : Int32))), (0, .ref (ad 23)), (1, .ref (ad k1))]) hx hb dX4_readAll_46 hl (k := 2) rfl rfl (by decide) rfl (fun ls hl => ?_)
            refine lv_goto (tgt := 6) hx hb dX4_readAll_49 (by decide) ?_
            exact hrec6 (v2 + (1 : Int32)) o6 _ _ _ hw (lv_sub hl [1, 2, 0] rfl) h
          · replace h := q_f h c5
            refine lv_iconst (v := (-1 : Int32)) hx hb dX4_readAll_40 (by decide) ?_
            exact q_iret h C0 hr hlk hw dX4_readAll_41
        · replace h := q_t h c4
          refine lv_iload_n hx hb dX4_readAll_30 rfl (lv_at hl 2 rfl) ?_
          exact q_iret h C0 hr hlk hw dX4_readAll_31
      · replace h := q_t h c3
        refine lv_iconst (v := (-1 : Int32)) hx hb dX4_readAll_21 (by decide) ?_
        exact q_iret h C0 hr hlk hw dX4_readAll_22
set_option maxHeartbeats 4000000 in
set_option maxRecDepth 100000 in
theorem kX4_readAll {k1 : Nat} (hk1 : xK k1 = 1) {σ : q_M} {out : Int32 × q_M} (h : fX4_readAll k1 σ = some out) : q_Mi l (gX D cI cJ cS ad adK adV) yX4_readAll wsX4_readAll { frames := 7, cells := 0, slots := 0, locals := 155 } [.ref (ad 23), .ref (ad k1)] σ out := by
  refine q_Mi_of (cc := cX4_readAll) (maxL := 3) (ret := (some .int)) (by decide) rfl (Nat.le_of_ble_eq_true rfl) ?_
  intro p e s m below meth c ls C0 hr hlk hl hw
  obtain ⟨hx, hb, hml, hown, hts⟩ := id C0
  replace hl : lv_has ls 3 [(0, .ref (ad 23)), (1, .ref (ad k1))] := hl
  unfold fX4_readAll at h
  refine lv_aload_n hx hb dX4_readAll_0 rfl (lv_at hl 0 rfl) ?_
  obtain ⟨o1, hco1, h⟩ := q_bind h
  refine q_callv hw (va_runV (As := []) (rest := []) C0 (kX7_rewind hco1 _) (cwV 0 hts gX4_readAll_X7_rewind rfl rfl rfl eX7_rewind ⟨(Nat.le_of_ble_eq_true rfl), (Nat.le_of_ble_eq_true rfl)⟩) ⟨q_blind, q_recv hw (xN_9 xF_23) (xE_9 xF_23) rfl, q_pre hw⟩ rfl rfl hl.1 rfl (lv_room (Nat.le_of_ble_eq_true rfl)) dX4_readAll_1 ⟨Nat.zero_le _, Nat.zero_le _⟩) (fun H locs hw => ?_)
  refine lv_iconst (v := (1 : Int32)) hx hb dX4_readAll_4 (by decide) ?_
  refine lv_istore_n (lv' := [(2, .int (1 : Int32)), (0, .ref (ad 23)), (1, .ref (ad k1))]) hx hb dX4_readAll_5 rfl hl (by decide) rfl (fun ls hl => ?_)
  exact tX4_readAll_c6 hk1 C0 hr hlk q_FU (1 : Int32) o1 _ _ _ hw (lv_sub hl [1, 2, 0] rfl) h
end
