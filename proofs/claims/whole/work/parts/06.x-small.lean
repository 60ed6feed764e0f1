section
variable {p : Program} {l : Launch} {e : Env} {s : State} {m : MethodId} {args : Array Value} {below : List Frame} {meth : Method} {c : Code} {D : va_G} {cI cJ cS : ClassId} {ad adK adV : Nat → Nat}
-- X3_become become(III)V
theorem iX3_become_X3 : ∀ w ∈ wsX30, w ∈ wsX3_become := by decide +kernel
set_option maxHeartbeats 4000000 in
set_option maxRecDepth 100000 in
theorem kX3_become {k : Nat} {p1 : Int32} {p2 : Int32} {p3 : Int32} (hk : xK k = 18) {σ : q_M} {out : q_M} (h : fX3_become k p1 p2 p3 σ = some out) : q_Mv l (gX D cI cJ cS ad adK adV) yX3_become wsX3_become { frames := 0, cells := 0, slots := 0, locals := 0 } [.ref (ad k), .int p1, .int p2, .int p3] σ out := by
  refine q_Mv_of (cc := cX3_become) (maxL := 4) (ret := none) (by decide) rfl (Nat.le_of_ble_eq_true rfl) ?_
  intro p e s m below meth c ls C0 hr hlk hl hw
  obtain ⟨hx, hb, hml, hown, hts⟩ := id C0
  replace hl : lv_has ls 4 [(0, .ref (ad k)), (1, .int p1), (2, .int p2), (3, .int p3)] := hl
  unfold fX3_become at h
  refine lv_aload_n hx hb dX3_become_0 rfl (lv_at hl 0 rfl) ?_
  refine lv_iload_n hx hb dX3_become_1 rfl (lv_at hl 1 rfl) ?_
  refine pt_X3_0 C0 hw hk iX3_become_X3 (by decide +kernel) dX3_become_2 (fun σ1 H locs e_σ1 hw => ?_)
  replace h := q_let_at e_σ1 h
  refine lv_aload_n hx hb dX3_become_5 rfl (lv_at hl 0 rfl) ?_
  refine lv_iload_n hx hb dX3_become_6 rfl (lv_at hl 2 rfl) ?_
  refine pt_X3_1 C0 hw hk iX3_become_X3 (by decide +kernel) dX3_become_7 (fun σ2 H locs e_σ2 hw => ?_)
  replace h := q_let_at e_σ2 h
  refine lv_aload_n hx hb dX3_become_10 rfl (lv_at hl 0 rfl) ?_
  refine lv_iload_n hx hb dX3_become_11 rfl (lv_at hl 3 rfl) ?_
  refine pt_X3_2 C0 hw hk iX3_become_X3 (by decide +kernel) dX3_become_12 (fun σ3 H locs e_σ3 hw => ?_)
  replace h := q_let_at e_σ3 h
  exact q_vret h C0 hr hlk hw dX3_become_15
-- X3_isOfKind isOfKind(I)Z
theorem iX3_isOfKind_X3 : ∀ w ∈ wsX30, w ∈ wsX3_isOfKind := by decide +kernel
set_option maxHeartbeats 4000000 in
set_option maxRecDepth 100000 in
theorem kX3_isOfKind {k : Nat} {p1 : Int32} (hk : xK k = 18) {σ : q_M} {out : Int32 × q_M} (h : fX3_isOfKind k p1 σ = some out) : q_Mi l (gX D cI cJ cS ad adK adV) yX3_isOfKind wsX3_isOfKind { frames := 0, cells := 0, slots := 0, locals := 0 } [.ref (ad k), .int p1] σ out := by
  refine q_Mi_of (cc := cX3_isOfKind) (maxL := 2) (ret := (some .boolean)) (by decide) rfl (Nat.le_of_ble_eq_true rfl) ?_
  intro p e s m below meth c ls C0 hr hlk hl hw
  obtain ⟨hx, hb, hml, hown, hts⟩ := id C0
  replace hl : lv_has ls 2 [(0, .ref (ad k)), (1, .int p1)] := hl
  unfold fX3_isOfKind at h
  refine lv_iload_n hx hb dX3_isOfKind_0 rfl (lv_at hl 1 rfl) ?_
  by_cases c1 : p1 = (0 : Int32)
  · replace h := q_t h c1
    refine q_tabIn (off := 27) (tgt := 28) C0 c1 dX3_isOfKind_1 (by decide) (by decide) rfl (by decide) ?_
    refine lv_iconst (v := (1 : Int32)) hx hb dX3_isOfKind_28 (by decide) ?_
    exact q_zret h C0 hr rfl hlk hw dX3_isOfKind_29
  · replace h := q_f h c1
    by_cases c2 : p1 = (1 : Int32)
    · replace h := q_t h c2
      refine q_tabIn (off := 29) (tgt := 30) C0 c2 dX3_isOfKind_1 (by decide) (by decide) rfl (by decide) ?_
      refine lv_aload_n hx hb dX3_isOfKind_30 rfl (lv_at hl 0 rfl) ?_
      refine gt_X3_0 C0 hw hk iX3_isOfKind_X3 (by decide +kernel) dX3_isOfKind_31 ?_
      refine lv_iconst (v := (1 : Int32)) hx hb dX3_isOfKind_34 (by decide) ?_
      refine lv_icmp_eq (tgt := 54) hx hb dX3_isOfKind_35 (by decide) (fun c3 => ?_) (fun c3 => ?_)
      · replace h := q_t h c3
        refine lv_iconst (v := (1 : Int32)) hx hb dX3_isOfKind_54 (by decide) ?_
        refine lv_goto (tgt := 59) hx hb dX3_isOfKind_55 (by decide) ?_
        exact q_zret h C0 hr rfl hlk hw dX3_isOfKind_59
      · replace h := q_f h c3
        refine lv_aload_n hx hb dX3_isOfKind_38 rfl (lv_at hl 0 rfl) ?_
        refine gt_X3_0 C0 hw hk iX3_isOfKind_X3 (by decide +kernel) dX3_isOfKind_39 ?_
        refine lv_iconst (v := (3 : Int32)) hx hb dX3_isOfKind_42 (by decide) ?_
        refine lv_icmp_eq (tgt := 54) hx hb dX3_isOfKind_43 (by decide) (fun c4 => ?_) (fun c4 => ?_)
        · replace h := q_t h c4
          refine lv_iconst (v := (1 : Int32)) hx hb dX3_isOfKind_54 (by decide) ?_
          refine lv_goto (tgt := 59) hx hb dX3_isOfKind_55 (by decide) ?_
          exact q_zret h C0 hr rfl hlk hw dX3_isOfKind_59
        · replace h := q_f h c4
          refine lv_aload_n hx hb dX3_isOfKind_46 rfl (lv_at hl 0 rfl) ?_
          refine gt_X3_0 C0 hw hk iX3_isOfKind_X3 (by decide +kernel) dX3_isOfKind_47 ?_
          refine lv_iconst (v := (4 : Int32)) hx hb dX3_isOfKind_50 (by decide) ?_
          refine lv_icmp_ne (tgt := 58) hx hb dX3_isOfKind_51 (by decide) (fun c5 => ?_) (fun c5 => ?_)
          · replace h := q_f h c5
            refine lv_iconst (v := (0 : Int32)) hx hb dX3_isOfKind_58 (by decide) ?_
            exact q_zret h C0 hr rfl hlk hw dX3_isOfKind_59
          · replace h := q_t h c5
            refine lv_iconst (v := (1 : Int32)) hx hb dX3_isOfKind_54 (by decide) ?_
            refine lv_goto (tgt := 59) hx hb dX3_isOfKind_55 (by decide) ?_
            exact q_zret h C0 hr rfl hlk hw dX3_isOfKind_59
    · replace h := q_f h c2
      by_cases c6 : p1 = (2 : Int32)
      · replace h := q_t h c6
        refine q_tabIn (off := 59) (tgt := 60) C0 c6 dX3_isOfKind_1 (by decide) (by decide) rfl (by decide) ?_
        refine lv_aload_n hx hb dX3_isOfKind_60 rfl (lv_at hl 0 rfl) ?_
        refine gt_X3_0 C0 hw hk iX3_isOfKind_X3 (by decide +kernel) dX3_isOfKind_61 ?_
        refine lv_iconst (v := (2 : Int32)) hx hb dX3_isOfKind_64 (by decide) ?_
        refine lv_icmp_eq (tgt := 76) hx hb dX3_isOfKind_65 (by decide) (fun c7 => ?_) (fun c7 => ?_)
        · replace h := q_t h c7
          refine lv_iconst (v := (1 : Int32)) hx hb dX3_isOfKind_76 (by decide) ?_
          refine lv_goto (tgt := 81) hx hb dX3_isOfKind_77 (by decide) ?_
          exact q_zret h C0 hr rfl hlk hw dX3_isOfKind_81
        · replace h := q_f h c7
          refine lv_aload_n hx hb dX3_isOfKind_68 rfl (lv_at hl 0 rfl) ?_
          refine gt_X3_0 C0 hw hk iX3_isOfKind_X3 (by decide +kernel) dX3_isOfKind_69 ?_
          refine lv_iconst (v := (5 : Int32)) hx hb dX3_isOfKind_72 (by decide) ?_
          refine lv_icmp_ne (tgt := 80) hx hb dX3_isOfKind_73 (by decide) (fun c8 => ?_) (fun c8 => ?_)
          · replace h := q_f h c8
            refine lv_iconst (v := (0 : Int32)) hx hb dX3_isOfKind_80 (by decide) ?_
            exact q_zret h C0 hr rfl hlk hw dX3_isOfKind_81
          · replace h := q_t h c8
            refine lv_iconst (v := (1 : Int32)) hx hb dX3_isOfKind_76 (by decide) ?_
            refine lv_goto (tgt := 81) hx hb dX3_isOfKind_77 (by decide) ?_
            exact q_zret h C0 hr rfl hlk hw dX3_isOfKind_81
      · replace h := q_f h c6
        have n_c1 := q_neI (n := 0) c1 (by decide)
        have n_c2 := q_neI (n := 1) c2 (by decide)
        have n_c6 := q_neI (n := 2) c6 (by decide)
        refine lv_tableOut (tgt := 82) hx hb dX3_isOfKind_1 (by omega) (by decide) ?_
        refine lv_aload_n hx hb dX3_isOfKind_82 rfl (lv_at hl 0 rfl) ?_
        refine gt_X3_0 C0 hw hk iX3_isOfKind_X3 (by decide +kernel) dX3_isOfKind_83 ?_
        refine lv_iload_n hx hb dX3_isOfKind_86 rfl (lv_at hl 1 rfl) ?_
        refine lv_icmp_ne (tgt := 94) hx hb dX3_isOfKind_87 (by decide) (fun c9 => ?_) (fun c9 => ?_)
        · replace h := q_f h c9
          refine lv_iconst (v := (0 : Int32)) hx hb dX3_isOfKind_94 (by decide) ?_
          exact q_zret h C0 hr rfl hlk hw dX3_isOfKind_95
        · replace h := q_t h c9
          refine lv_iconst (v := (1 : Int32)) hx hb dX3_isOfKind_90 (by decide) ?_
          refine lv_goto (tgt := 95) hx hb dX3_isOfKind_91 (by decide) ?_
          exact q_zret h C0 hr rfl hlk hw dX3_isOfKind_95
-- X3_wayAt wayAt(I)I
theorem iX3_wayAt_X3 : ∀ w ∈ wsX30, w ∈ wsX3_wayAt := by decide +kernel
set_option maxHeartbeats 4000000 in
set_option maxRecDepth 100000 in
theorem kX3_wayAt {k : Nat} {p1 : Int32} (hk : xK k = 18) {σ : q_M} {out : Int32 × q_M} (h : fX3_wayAt k p1 σ = some out) : q_Mi l (gX D cI cJ cS ad adK adV) yX3_wayAt wsX3_wayAt { frames := 0, cells := 0, slots := 0, locals := 0 } [.ref (ad k), .int p1] σ out := by
  refine q_Mi_of (cc := cX3_wayAt) (maxL := 2) (ret := (some .int)) (by decide) rfl (Nat.le_of_ble_eq_true rfl) ?_
  intro p e s m below meth c ls C0 hr hlk hl hw
  obtain ⟨hx, hb, hml, hown, hts⟩ := id C0
  replace hl : lv_has ls 2 [(0, .ref (ad k)), (1, .int p1)] := hl
  unfold fX3_wayAt at h
  refine lv_aload_n hx hb dX3_wayAt_0 rfl (lv_at hl 0 rfl) ?_
  refine gt_X3_0 C0 hw hk iX3_wayAt_X3 (by decide +kernel) dX3_wayAt_1 ?_
  by_cases c1 : (σ.1 k 0) = (2 : Int32)
  · replace h := q_t h c1
    refine q_lookIn (off := 28) (tgt := 32) C0 c1 dX3_wayAt_4 (by decide) (by decide) (by decide) ?_
    refine lv_iload_n hx hb dX3_wayAt_32 rfl (lv_at hl 1 rfl) ?_
    refine lv_iconst (v := (1 : Int32)) hx hb dX3_wayAt_33 (by decide) ?_
    refine lv_icmp_gt (tgt := 44) hx hb dX3_wayAt_34 (by decide) (fun c2 => ?_) (fun c2 => ?_)
    · replace h := q_t h c2
      refine lv_aload_n hx hb dX3_wayAt_44 rfl (lv_at hl 0 rfl) ?_
      refine gt_X3_2 C0 hw hk iX3_wayAt_X3 (by decide +kernel) dX3_wayAt_45 ?_
      exact q_iret h C0 hr hlk hw dX3_wayAt_48
    · replace h := q_f h c2
      refine lv_aload_n hx hb dX3_wayAt_37 rfl (lv_at hl 0 rfl) ?_
      refine gt_X3_1 C0 hw hk iX3_wayAt_X3 (by decide +kernel) dX3_wayAt_38 ?_
      refine lv_goto (tgt := 48) hx hb dX3_wayAt_41 (by decide) ?_
      exact q_iret h C0 hr hlk hw dX3_wayAt_48
  · replace h := q_f h c1
    by_cases c3 : (σ.1 k 0) = (5 : Int32)
    · replace h := q_t h c3
      refine q_lookIn (off := 45) (tgt := 49) C0 c3 dX3_wayAt_4 (by decide) (by decide) (by decide) ?_
      refine lv_iload_n hx hb dX3_wayAt_49 rfl (lv_at hl 1 rfl) ?_
      refine lv_iconst (v := (2 : Int32)) hx hb dX3_wayAt_50 (by decide) ?_
      refine lv_icmp_gt (tgt := 61) hx hb dX3_wayAt_51 (by decide) (fun c4 => ?_) (fun c4 => ?_)
      · replace h := q_t h c4
        refine lv_aload_n hx hb dX3_wayAt_61 rfl (lv_at hl 0 rfl) ?_
        refine gt_X3_2 C0 hw hk iX3_wayAt_X3 (by decide +kernel) dX3_wayAt_62 ?_
        exact q_iret h C0 hr hlk hw dX3_wayAt_65
      · replace h := q_f h c4
        refine lv_aload_n hx hb dX3_wayAt_54 rfl (lv_at hl 0 rfl) ?_
        refine gt_X3_1 C0 hw hk iX3_wayAt_X3 (by decide +kernel) dX3_wayAt_55 ?_
        refine lv_goto (tgt := 65) hx hb dX3_wayAt_58 (by decide) ?_
        exact q_iret h C0 hr hlk hw dX3_wayAt_65
    · replace h := q_f h c3
      have n_c1 := q_neI (n := 2) c1 (by decide)
      have n_c3 := q_neI (n := 5) c3 (by decide)
      refine lv_lookup (off := 62) (tgt := 66) hx hb dX3_wayAt_4 (by decide) (by simp [Op.lookupswitch.offset, n_c1.symm, n_c3.symm]) (by decide) ?_
      refine lv_aload_n hx hb dX3_wayAt_66 rfl (lv_at hl 0 rfl) ?_
      refine gt_X3_1 C0 hw hk iX3_wayAt_X3 (by decide +kernel) dX3_wayAt_67 ?_
      exact q_iret h C0 hr hlk hw dX3_wayAt_70
-- X3_suits suits(LMouldThatComesOff$Block;J)Z
theorem iX3_suits_X3 : ∀ w ∈ wsX30, w ∈ wsX3_suits := by decide +kernel
theorem eX0_endTowards : yX0_endTowards.cls = RX0 ∧ yX0_endTowards.cls ≠ "java/lang/invoke/MethodHandle" ∧ yX0_endTowards.cls ≠ "java/lang/invoke/VarHandle" ∧ (parseMethodDescriptor yX0_endTowards.desc).map (fun d => d.parameters.length) = some 1 := by decide +kernel
set_option maxHeartbeats 4000000 in
set_option maxRecDepth 100000 in
theorem kX3_suits {k : Nat} {k1 : Nat} {p2 : Int64} (hk : xK k = 18) (hk1 : xK k1 = 2) {σ : q_M} {out : Int32 × q_M} (h : fX3_suits k k1 p2 σ = some out) : q_Mi l (gX D cI cJ cS ad adK adV) yX3_suits wsX3_suits { frames := 1, cells := 0, slots := 0, locals := 27 } [.ref (ad k), .ref (ad k1), .long p2] σ out := by
  refine q_Mi_of (cc := cX3_suits) (maxL := 4) (ret := (some .boolean)) (by decide) rfl (Nat.le_of_ble_eq_true rfl) ?_
  intro p e s m below meth c ls C0 hr hlk hl hw
  obtain ⟨hx, hb, hml, hown, hts⟩ := id C0
  replace hl : lv_has ls 4 [(0, .ref (ad k)), (1, .ref (ad k1)), (2, .long p2)] := hl
  unfold fX3_suits at h
  refine lv_aload_n hx hb dX3_suits_0 rfl (lv_at hl 0 rfl) ?_
  refine gt_X3_0 C0 hw hk iX3_suits_X3 (by decide +kernel) dX3_suits_1 ?_
  by_cases c1 : (σ.1 k 0) = (3 : Int32)
  · replace h := q_t h c1
    refine q_lookIn (off := 28) (tgt := 32) C0 c1 dX3_suits_4 (by decide) (by decide) (by decide) ?_
    refine lv_lload_n hx hb dX3_suits_32 rfl (lv_at hl 2 rfl) ?_
    refine lv_aload_n hx hb dX3_suits_33 rfl (lv_at hl 1 rfl) ?_
    refine lv_lload_n hx hb dX3_suits_34 rfl (lv_at hl 2 rfl) ?_
    refine lv_lload_n hx hb dX3_suits_35 rfl (lv_at hl 2 rfl) ?_
    refine lv_lneg hx hb dX3_suits_36 ?_
    refine lv_land hx hb dX3_suits_37 ?_
    refine lv_aload_n hx hb dX3_suits_38 rfl (lv_at hl 0 rfl) ?_
    refine gt_X3_1 C0 hw hk iX3_suits_X3 (by decide +kernel) dX3_suits_39 ?_
    refine lv_iconst (v := (1 : Int32)) hx hb dX3_suits_42 (by decide) ?_
    refine q_ishr (v := (q_sr (σ.1 k 1) (1 : Int32))) C0 dX3_suits_43 rfl ?_
    obtain ⟨o2, hco2, h⟩ := q_bind h
    refine q_calll hw (va_runV (As := [.long (p2 &&& (-p2)), .int (q_sr (σ.1 k 1) (1 : Int32))]) (rest := [.long p2]) C0 (kX0_rowThrough hk1 hco2 _) (cwV 2 hts gX3_suits_X0_rowThrough rfl rfl rfl eX0_rowThrough ⟨(Nat.le_of_ble_eq_true rfl), (Nat.le_of_ble_eq_true rfl)⟩) ⟨q_blind, q_recv hw (xN_2 hk1) (xE_2 hk1) rfl, q_pre hw⟩ rfl rfl hl.1 rfl (lv_room (Nat.le_of_ble_eq_true rfl)) dX3_suits_44 ⟨Nat.zero_le _, Nat.zero_le _⟩) (fun H locs hw => ?_)
    refine lv_ldc2 (v := (-1 : Int64)) hx hb hown (hts (.constantLong RX3 27 (-1)) (by decide +kernel)) dX3_suits_47 ?_
    refine lv_lxor hx hb dX3_suits_50 ?_
    refine lv_land hx hb dX3_suits_51 ?_
    refine lv_lconst (v := (0 : Int64)) hx hb dX3_suits_52 (by decide) ?_
    refine q_lcmp_ne (tgt := 61) C0 dX3_suits_53 dX3_suits_54 (by decide) (fun c3 => ?_) (fun c3 => ?_)
    · replace h := q_f h c3
      refine lv_iconst (v := (0 : Int32)) hx hb dX3_suits_61 (by decide) ?_
      exact q_zret h C0 hr rfl hlk hw dX3_suits_62
    · replace h := q_t h c3
      refine lv_iconst (v := (1 : Int32)) hx hb dX3_suits_57 (by decide) ?_
      refine lv_goto (tgt := 62) hx hb dX3_suits_58 (by decide) ?_
      exact q_zret h C0 hr rfl hlk hw dX3_suits_62
  · replace h := q_f h c1
    by_cases c4 : (σ.1 k 0) = (4 : Int32)
    · replace h := q_t h c4
      refine q_lookIn (off := 59) (tgt := 63) C0 c4 dX3_suits_4 (by decide) (by decide) (by decide) ?_
      refine lv_lload_n hx hb dX3_suits_63 rfl (lv_at hl 2 rfl) ?_
      refine lv_aload_n hx hb dX3_suits_64 rfl (lv_at hl 1 rfl) ?_
      refine lv_aload_n hx hb dX3_suits_65 rfl (lv_at hl 0 rfl) ?_
      refine gt_X3_1 C0 hw hk iX3_suits_X3 (by decide +kernel) dX3_suits_66 ?_
      obtain ⟨o5, hco5, h⟩ := q_bind h
      refine q_calll hw (va_runV (As := [.int (σ.1 k 1)]) (rest := [.long p2]) C0 (kX0_endTowards hk1 hco5 _) (cwV 1 hts gX3_suits_X0_endTowards rfl rfl rfl eX0_endTowards ⟨(Nat.le_of_ble_eq_true rfl), (Nat.le_of_ble_eq_true rfl)⟩) ⟨q_blind, q_recv hw (xN_2 hk1) (xE_2 hk1) rfl, q_pre hw⟩ rfl rfl hl.1 rfl (lv_room (Nat.le_of_ble_eq_true rfl)) dX3_suits_69 ⟨Nat.zero_le _, Nat.zero_le _⟩) (fun H locs hw => ?_)
      refine lv_land hx hb dX3_suits_72 ?_
      refine lv_lconst (v := (0 : Int64)) hx hb dX3_suits_73 (by decide) ?_
      refine q_lcmp_eq (tgt := 82) C0 dX3_suits_74 dX3_suits_75 (by decide) (fun c6 => ?_) (fun c6 => ?_)
      · replace h := q_t h c6
        refine lv_iconst (v := (0 : Int32)) hx hb dX3_suits_82 (by decide) ?_
        exact q_zret h C0 hr rfl hlk hw dX3_suits_83
      · replace h := q_f h c6
        refine lv_iconst (v := (1 : Int32)) hx hb dX3_suits_78 (by decide) ?_
        refine lv_goto (tgt := 83) hx hb dX3_suits_79 (by decide) ?_
        exact q_zret h C0 hr rfl hlk hw dX3_suits_83
    · replace h := q_f h c4
      have n_c1 := q_neI (n := 3) c1 (by decide)
      have n_c4 := q_neI (n := 4) c4 (by decide)
      refine lv_lookup (off := 80) (tgt := 84) hx hb dX3_suits_4 (by decide) (by simp [Op.lookupswitch.offset, n_c1.symm, n_c4.symm]) (by decide) ?_
      refine lv_iconst (v := (1 : Int32)) hx hb dX3_suits_84 (by decide) ?_
      exact q_zret h C0 hr rfl hlk hw dX3_suits_85
-- X3_takes takes(LMouldThatComesOff$Block;JJ)Z
theorem eX3_suits : yX3_suits.cls = RX3 ∧ yX3_suits.cls ≠ "java/lang/invoke/MethodHandle" ∧ yX3_suits.cls ≠ "java/lang/invoke/VarHandle" ∧ (parseMethodDescriptor yX3_suits.desc).map (fun d => d.parameters.length) = some 2 := by decide +kernel
theorem eX3_wayAt : yX3_wayAt.cls = RX3 ∧ yX3_wayAt.cls ≠ "java/lang/invoke/MethodHandle" ∧ yX3_wayAt.cls ≠ "java/lang/invoke/VarHandle" ∧ (parseMethodDescriptor yX3_wayAt.desc).map (fun d => d.parameters.length) = some 1 := by decide +kernel
set_option maxHeartbeats 4000000 in
set_option maxRecDepth 100000 in
theorem tX3_takes_c23 {k : Nat} {k1 : Nat} {p2 : Int64} {p4 : Int64} (hk : xK k = 18) (hk1 : xK k1 = 2) (C0 : CallFix p m c cX3_takes 9 s args wsX3_takes RX3) (hr : meth.sig.returnType = (some .boolean)) (hlk : meth.locks = false) {out : Int32 × q_M}  : ∀ n : Nat, ∀ (v6 : Int64) (v8 : Int32) (σ : q_M) (H : Heap) (locs : List Loc) (ls : Array Slot), q_H (gX D cI cJ cS ad adK adV) (q_A (gX D cI cJ cS ad adK adV) s.heap.size) s σ H locs → lv_has ls 9 [(0, .ref (ad k)), (1, .ref (ad k1)), (4, .long p4), (6, .long v6), (8, .int v8)] → fX3_takes_c23 k k1 p2 p4 n v6 v8 σ = some out → W p l e { frames := 2, cells := 0, slots := 0, locals := 50 } s m args below meth c H locs 0 0 (MQ below (q_Ri (gX D cI cJ cS ad adK adV) (q_A (gX D cI cJ cS ad adK adV) s.heap.size) out) args s 0 0 (q_A (gX D cI cJ cS ad adK adV) s.heap.size)) (F0 m 23 ls []) := by
  obtain ⟨hx, hb, hml, hown, hts⟩ := id C0
  intro n
  induction n with
  | zero =>
    intro v6 v8 σ H locs ls  hw hl h
    cases (show (none : Option (Int32 × q_M)) = some out from h)
  | succ n hrec23 =>
    intro v6 v8 σ H locs ls  hw hl h
    replace h : fX3_takes_c23b k k1 p2 p4 (fX3_takes_c23 k k1 p2 p4 n) v6 v8 σ = some out := h
    unfold fX3_takes_c23b at h
    refine lv_iload hx hb dX3_takes_23 (lv_at hl 4 rfl) ?_
    refine lv_bipush (v := (9 : Int32)) hx hb dX3_takes_25 (by decide) ?_
    refine lv_icmp_gt (tgt := 69) hx hb dX3_takes_27 (by decide) (fun c1 => ?_) (fun c1 => ?_)
    · replace h := q_t h c1
      refine lv_iconst (v := (1 : Int32)) hx hb dX3_takes_69 (by decide) ?_
      exact q_zret h C0 hr rfl hlk hw dX3_takes_70
    · replace h := q_f h c1
      refine lv_lload hx hb dX3_takes_30 (lv_at hl 3 rfl) ?_
      refine lv_lconst (v := (0 : Int64)) hx hb dX3_takes_32 (by decide) ?_
      refine q_lcmp_eq (tgt := 69) C0 dX3_takes_33 dX3_takes_34 (by decide) (fun c2 => ?_) (fun c2 => ?_)
      · replace h := q_t h c2
        refine lv_iconst (v := (1 : Int32)) hx hb dX3_takes_69 (by decide) ?_
        exact q_zret h C0 hr rfl hlk hw dX3_takes_70
      · replace h := q_f h c2
        refine lv_aload_n hx hb dX3_takes_37 rfl (lv_at hl 1 rfl) ?_
        refine lv_lload hx hb dX3_takes_38 (lv_at hl 3 rfl) ?_
        refine lv_aload_n hx hb dX3_takes_40 rfl (lv_at hl 0 rfl) ?_
        refine lv_iload hx hb dX3_takes_41 (lv_at hl 4 rfl) ?_
        obtain ⟨o3, hco3, h⟩ := q_bind h
        refine q_calli hw (va_runV (As := [.int v8]) (rest := [.long v6, .ref (ad k1)]) C0 (kX3_wayAt hk hco3 _) (cwV 1 hts gX3_takes_X3_wayAt rfl rfl rfl eX3_wayAt ⟨(Nat.le_of_ble_eq_true rfl), (Nat.le_of_ble_eq_true rfl)⟩) ⟨q_blind, q_recv hw (xN_18 hk) (xE_18 hk) rfl, q_pre hw⟩ rfl rfl hl.1 rfl (lv_room (Nat.le_of_ble_eq_true rfl)) dX3_takes_43 ⟨Nat.zero_le _, Nat.zero_le _⟩) (fun H locs hw => ?_)
        obtain ⟨o4, hco4, h⟩ := q_bind h
        refine q_calll hw (va_runV (As := [.long v6, .int o3.1]) (rest := []) C0 (kX0_shifted hk1 hco4 _) (cwV 2 hts gX3_takes_X0_shifted rfl rfl rfl eX0_shifted ⟨(Nat.le_of_ble_eq_true rfl), (Nat.le_of_ble_eq_true rfl)⟩) ⟨q_blind, q_recv hw (xN_2 hk1) (xE_2 hk1) rfl, q_pre hw⟩ rfl rfl hl.1 rfl (lv_room (Nat.le_of_ble_eq_true rfl)) dX3_takes_46 ⟨Nat.zero_le _, Nat.zero_le _⟩) (fun H locs hw => ?_)
        refine lv_lstore (lv' := [(6, .long o4.1), (0, .ref (ad k)), (1, .ref (ad k1)), (4, .long p4), (8, .int v8)]) hx hb dX3_takes_49 hl (by decide) rfl (fun ls hl => ?_)
        refine lv_lload hx hb dX3_takes_51 (lv_at hl 0 rfl) ?_
        refine lv_lload hx hb dX3_takes_53 (lv_at hl 3 rfl) ?_
        refine lv_land hx hb dX3_takes_55 ?_
        refine lv_lconst (v := (0 : Int64)) hx hb dX3_takes_56 (by decide) ?_
        refine q_lcmp_eq (tgt := 63) C0 dX3_takes_57 dX3_takes_58 (by decide) (fun c5 => ?_) (fun c5 => ?_)
        · replace h := q_t h c5
          refine lv_iinc (v := (v8 + (1 : Int32))) (lv' := [(8, .int (v8 + (1 : Int32))), (6, .long o4.1), (0, .ref (ad k)), (1, .ref (ad k1)), (4, .long p4)]) hx hb dX3_takes_63 hl (k := 4) rfl rfl (by decide) rfl (fun ls hl => ?_)
          refine lv_goto (tgt := 23) hx hb dX3_takes_66 (by decide) ?_
          exact hrec23 o4.1 (v8 + (1 : Int32)) o4.2 _ _ _ hw (lv_sub hl [2, 3, 4, 1, 0] rfl) h
        · replace h := q_f h c5
          refine lv_iconst (v := (0 : Int32)) hx hb dX3_takes_61 (by decide) ?_
          exact q_zret h C0 hr rfl hlk hw dX3_takes_62
set_option maxHeartbeats 4000000 in
set_option maxRecDepth 100000 in
theorem kX3_takes {k : Nat} {k1 : Nat} {p2 : Int64} {p4 : Int64} (hk : xK k = 18) (hk1 : xK k1 = 2) {σ : q_M} {out : Int32 × q_M} (h : fX3_takes k k1 p2 p4 σ = some out) : q_Mi l (gX D cI cJ cS ad adK adV) yX3_takes wsX3_takes { frames := 2, cells := 0, slots := 0, locals := 50 } [.ref (ad k), .ref (ad k1), .long p2, .long p4] σ out := by
  refine q_Mi_of (cc := cX3_takes) (maxL := 9) (ret := (some .boolean)) (by decide) rfl (Nat.le_of_ble_eq_true rfl) ?_
  intro p e s m below meth c ls C0 hr hlk hl hw
  obtain ⟨hx, hb, hml, hown, hts⟩ := id C0
  replace hl : lv_has ls 9 [(0, .ref (ad k)), (1, .ref (ad k1)), (2, .long p2), (4, .long p4)] := hl
  unfold fX3_takes at h
  refine lv_lload_n hx hb dX3_takes_0 rfl (lv_at hl 2 rfl) ?_
  refine lv_lconst (v := (0 : Int64)) hx hb dX3_takes_1 (by decide) ?_
  refine q_lcmp_eq (tgt := 17) C0 dX3_takes_2 dX3_takes_3 (by decide) (fun c1 => ?_) (fun c1 => ?_)
  · replace h := q_t h c1
    refine lv_lload_n hx hb dX3_takes_17 rfl (lv_at hl 2 rfl) ?_
    refine lv_lstore (lv' := [(6, .long p2), (0, .ref (ad k)), (1, .ref (ad k1)), (2, .long p2), (4, .long p4)]) hx hb dX3_takes_18 hl (by decide) rfl (fun ls hl => ?_)
    refine lv_iconst (v := (1 : Int32)) hx hb dX3_takes_20 (by decide) ?_
    refine lv_istore (lv' := [(8, .int (1 : Int32)), (6, .long p2), (0, .ref (ad k)), (1, .ref (ad k1)), (2, .long p2), (4, .long p4)]) hx hb dX3_takes_21 hl (by decide) rfl (fun ls hl => ?_)
    exact tX3_takes_c23 hk hk1 C0 hr hlk q_FU p2 (1 : Int32) σ _ _ _ hw (lv_sub hl [2, 3, 5, 1, 0] rfl) h
  · replace h := q_f h c1
    refine lv_aload_n hx hb dX3_takes_6 rfl (lv_at hl 0 rfl) ?_
    refine lv_aload_n hx hb dX3_takes_7 rfl (lv_at hl 1 rfl) ?_
    refine lv_lload_n hx hb dX3_takes_8 rfl (lv_at hl 2 rfl) ?_
    obtain ⟨o2, hco2, h⟩ := q_bind h
    refine q_calli hw (va_runV (As := [.ref (ad k1), .long p2]) (rest := []) C0 (kX3_suits hk hk1 hco2 _) (cwV 2 hts gX3_takes_X3_suits rfl rfl rfl eX3_suits ⟨(Nat.le_of_ble_eq_true rfl), (Nat.le_of_ble_eq_true rfl)⟩) ⟨q_blind, q_recv hw (xN_18 hk) (xE_18 hk) rfl, q_pre hw⟩ rfl rfl hl.1 rfl (lv_room (Nat.le_of_ble_eq_true rfl)) dX3_takes_9 ⟨Nat.zero_le _, Nat.zero_le _⟩) (fun H locs hw => ?_)
    refine lv_if_ne (tgt := 17) hx hb dX3_takes_12 (by decide) (fun c3 => ?_) (fun c3 => ?_)
    · replace h := q_f h c3
      refine lv_lload_n hx hb dX3_takes_17 rfl (lv_at hl 2 rfl) ?_
      refine lv_lstore (lv' := [(6, .long p2), (0, .ref (ad k)), (1, .ref (ad k1)), (2, .long p2), (4, .long p4)]) hx hb dX3_takes_18 hl (by decide) rfl (fun ls hl => ?_)
      refine lv_iconst (v := (1 : Int32)) hx hb dX3_takes_20 (by decide) ?_
      refine lv_istore (lv' := [(8, .int (1 : Int32)), (6, .long p2), (0, .ref (ad k)), (1, .ref (ad k1)), (2, .long p2), (4, .long p4)]) hx hb dX3_takes_21 hl (by decide) rfl (fun ls hl => ?_)
      exact tX3_takes_c23 hk hk1 C0 hr hlk q_FU p2 (1 : Int32) o2.2 _ _ _ hw (lv_sub hl [2, 3, 5, 1, 0] rfl) h
    · replace h := q_t h c3
      refine lv_iconst (v := (0 : Int32)) hx hb dX3_takes_15 (by decide) ?_
      exact q_zret h C0 hr rfl hlk hw dX3_takes_16
-- X3_carried carried(LMouldThatComesOff$Block;JI)J
set_option maxHeartbeats 4000000 in
set_option maxRecDepth 100000 in
theorem tX3_carried_c6 {k : Nat} {k1 : Nat} {p2 : Int64} {p4 : Int32} (hk : xK k = 18) (hk1 : xK k1 = 2) (C0 : CallFix p m c cX3_carried 8 s args wsX3_carried RX3) (hr : meth.sig.returnType = (some .long)) (hlk : meth.locks = false) {out : Int64 × q_M}  : ∀ n : Nat, ∀ (v5 : Int64) (v7 : Int32) (σ : q_M) (H : Heap) (locs : List Loc) (ls : Array Slot), q_H (gX D cI cJ cS ad adK adV) (q_A (gX D cI cJ cS ad adK adV) s.heap.size) s σ H locs → lv_has ls 8 [(0, .ref (ad k)), (1, .ref (ad k1)), (4, .int p4), (5, .long v5), (7, .int v7)] → fX3_carried_c6 k k1 p2 p4 n v5 v7 σ = some out → W p l e { frames := 1, cells := 0, slots := 0, locals := 26 } s m args below meth c H locs 0 0 (MQ below (q_Rl (gX D cI cJ cS ad adK adV) (q_A (gX D cI cJ cS ad adK adV) s.heap.size) out) args s 0 0 (q_A (gX D cI cJ cS ad adK adV) s.heap.size)) (F0 m 6 ls []) := by
  obtain ⟨hx, hb, hml, hown, hts⟩ := id C0
  intro n
  induction n with
  | zero =>
    intro v5 v7 σ H locs ls  hw hl h
    cases (show (none : Option (Int64 × q_M)) = some out from h)
  | succ n hrec6 =>
    intro v5 v7 σ H locs ls  hw hl h
    replace h : fX3_carried_c6b k k1 p2 p4 (fX3_carried_c6 k k1 p2 p4 n) v5 v7 σ = some out := h
    unfold fX3_carried_c6b at h
    refine lv_iload hx hb dX3_carried_6 (lv_at hl 4 rfl) ?_
    refine lv_iload hx hb dX3_carried_8 (lv_at hl 2 rfl) ?_
    refine lv_icmp_gt (tgt := 33) hx hb dX3_carried_10 (by decide) (fun c1 => ?_) (fun c1 => ?_)
    · replace h := q_t h c1
      refine lv_lload hx hb dX3_carried_33 (lv_at hl 3 rfl) ?_
      exact q_lret h C0 hr hlk hw dX3_carried_35
    · replace h := q_f h c1
      refine lv_aload_n hx hb dX3_carried_13 rfl (lv_at hl 1 rfl) ?_
      refine lv_lload hx hb dX3_carried_14 (lv_at hl 3 rfl) ?_
      refine lv_aload_n hx hb dX3_carried_16 rfl (lv_at hl 0 rfl) ?_
      refine lv_iload hx hb dX3_carried_17 (lv_at hl 4 rfl) ?_
      obtain ⟨o2, hco2, h⟩ := q_bind h
      refine q_calli hw (va_runV (As := [.int v7]) (rest := [.long v5, .ref (ad k1)]) C0 (kX3_wayAt hk hco2 _) (cwV 1 hts gX3_carried_X3_wayAt rfl rfl rfl eX3_wayAt ⟨(Nat.le_of_ble_eq_true rfl), (Nat.le_of_ble_eq_true rfl)⟩) ⟨q_blind, q_recv hw (xN_18 hk) (xE_18 hk) rfl, q_pre hw⟩ rfl rfl hl.1 rfl (lv_room (Nat.le_of_ble_eq_true rfl)) dX3_carried_19 ⟨Nat.zero_le _, Nat.zero_le _⟩) (fun H locs hw => ?_)
      obtain ⟨o3, hco3, h⟩ := q_bind h
      refine q_calll hw (va_runV (As := [.long v5, .int o2.1]) (rest := []) C0 (kX0_shifted hk1 hco3 _) (cwV 2 hts gX3_carried_X0_shifted rfl rfl rfl eX0_shifted ⟨(Nat.le_of_ble_eq_true rfl), (Nat.le_of_ble_eq_true rfl)⟩) ⟨q_blind, q_recv hw (xN_2 hk1) (xE_2 hk1) rfl, q_pre hw⟩ rfl rfl hl.1 rfl (lv_room (Nat.le_of_ble_eq_true rfl)) dX3_carried_22 ⟨Nat.zero_le _, Nat.zero_le _⟩) (fun H locs hw => ?_)
      refine lv_lstore (lv' := [(5, .long o3.1), (0, .ref (ad k)), (1, .ref (ad k1)), (4, .int p4), (7, .int v7)]) hx hb dX3_carried_25 hl (by decide) rfl (fun ls hl => ?_)
      refine lv_iinc (v := (v7 + (1 : Int32))) (lv' := [(7, .int (v7 + (1 : Int32))), (5, .long o3.1), (0, .ref (ad k)), (1, .ref (ad k1)), (4, .int p4)]) hx hb dX3_carried_27 hl (k := 4) rfl rfl (by decide) rfl (fun ls hl => ?_)
      refine lv_goto (tgt := 6) hx hb dX3_carried_30 (by decide) ?_
      exact hrec6 o3.1 (v7 + (1 : Int32)) o3.2 _ _ _ hw (lv_sub hl [2, 3, 4, 1, 0] rfl) h
set_option maxHeartbeats 4000000 in
set_option maxRecDepth 100000 in
theorem kX3_carried {k : Nat} {k1 : Nat} {p2 : Int64} {p4 : Int32} (hk : xK k = 18) (hk1 : xK k1 = 2) {σ : q_M} {out : Int64 × q_M} (h : fX3_carried k k1 p2 p4 σ = some out) : q_Ml l (gX D cI cJ cS ad adK adV) yX3_carried wsX3_carried { frames := 1, cells := 0, slots := 0, locals := 26 } [.ref (ad k), .ref (ad k1), .long p2, .int p4] σ out := by
  refine q_Ml_of (cc := cX3_carried) (maxL := 8) (ret := (some .long)) (by decide) rfl (Nat.le_of_ble_eq_true rfl) ?_
  intro p e s m below meth c ls C0 hr hlk hl hw
  obtain ⟨hx, hb, hml, hown, hts⟩ := id C0
  replace hl : lv_has ls 8 [(0, .ref (ad k)), (1, .ref (ad k1)), (2, .long p2), (4, .int p4)] := hl
  unfold fX3_carried at h
  refine lv_lload_n hx hb dX3_carried_0 rfl (lv_at hl 2 rfl) ?_
  refine lv_lstore (lv' := [(5, .long p2), (0, .ref (ad k)), (1, .ref (ad k1)), (2, .long p2), (4, .int p4)]) hx hb dX3_carried_1 hl (by decide) rfl (fun ls hl => ?_)
  refine lv_iconst (v := (1 : Int32)) hx hb dX3_carried_3 (by decide) ?_
  refine lv_istore (lv' := [(7, .int (1 : Int32)), (5, .long p2), (0, .ref (ad k)), (1, .ref (ad k1)), (2, .long p2), (4, .int p4)]) hx hb dX3_carried_4 hl (by decide) rfl (fun ls hl => ?_)
  exact tX3_carried_c6 hk hk1 C0 hr hlk q_FU p2 (1 : Int32) σ _ _ _ hw (lv_sub hl [2, 3, 5, 1, 0] rfl) h
-- X5_become become(II)V
theorem iX5_become_X5 : ∀ w ∈ wsX50, w ∈ wsX5_become := by decide +kernel
set_option maxHeartbeats 4000000 in
set_option maxRecDepth 100000 in
theorem kX5_become {k : Nat} {p1 : Int32} {p2 : Int32} (hk : xK k = 16) {σ : q_M} {out : q_M} (h : fX5_become k p1 p2 σ = some out) : q_Mv l (gX D cI cJ cS ad adK adV) yX5_become wsX5_become { frames := 1, cells := 0, slots := 0, locals := 24 } [.ref (ad k), .int p1, .int p2] σ out := by
  refine q_Mv_of (cc := cX5_become) (maxL := 3) (ret := none) (by decide) rfl (Nat.le_of_ble_eq_true rfl) ?_
  intro p e s m below meth c ls C0 hr hlk hl hw
  obtain ⟨hx, hb, hml, hown, hts⟩ := id C0
  replace hl : lv_has ls 3 [(0, .ref (ad k)), (1, .int p1), (2, .int p2)] := hl
  unfold fX5_become at h
  refine lv_aload_n hx hb dX5_become_0 rfl (lv_at hl 0 rfl) ?_
  refine lv_iload_n hx hb dX5_become_1 rfl (lv_at hl 1 rfl) ?_
  refine pt_X5_0 C0 hw hk iX5_become_X5 (by decide +kernel) dX5_become_2 (fun σ1 H locs e_σ1 hw => ?_)
  replace h := q_let_at e_σ1 h
  refine lv_aload_n hx hb dX5_become_5 rfl (lv_at hl 0 rfl) ?_
  refine lv_iload_n hx hb dX5_become_6 rfl (lv_at hl 2 rfl) ?_
  refine pt_X5_1 C0 hw hk iX5_become_X5 (by decide +kernel) dX5_become_7 (fun σ2 H locs e_σ2 hw => ?_)
  replace h := q_let_at e_σ2 h
  refine lv_aload_n hx hb dX5_become_10 rfl (lv_at hl 0 rfl) ?_
  refine gt_X5_2 C0 hw hk iX5_become_X5 (by decide +kernel) dX5_become_11 ?_
  refine lv_lconst (v := (0 : Int64)) hx hb dX5_become_14 (by decide) ?_
  obtain ⟨o3, hco3, h⟩ := q_bind h
  refine q_callv hw (va_runS (As := [.ref (ad (k + 1)), .long (0 : Int64)]) (rest := []) C0 (kJ7_fill_d0a16 (t0 := 1) rfl (xN_17 (xD_16_1 hk)) (xE_17 (xD_16_1 hk)) hco3 _) (va_cwS 2 hts gX5_become_J7_fill_d0a16 rfl rfl rfl eJ7_fill_d0a16 ⟨(Nat.le_of_ble_eq_true rfl), (Nat.le_of_ble_eq_true rfl)⟩) ⟨q_blind, q_pre hw⟩ rfl rfl hl.1 rfl (lv_room (Nat.le_of_ble_eq_true rfl)) dX5_become_15 ⟨Nat.zero_le _, Nat.zero_le _⟩) (fun H locs hw => ?_)
  exact q_vret h C0 hr hlk hw dX5_become_18
-- X5_fitted fitted(J)J
theorem iX5_fitted_X5 : ∀ w ∈ wsX50, w ∈ wsX5_fitted := by decide +kernel
set_option maxHeartbeats 4000000 in
set_option maxRecDepth 100000 in
theorem kX5_fitted {k : Nat} {p1 : Int64} (hk : xK k = 16) {σ : q_M} {out : Int64 × q_M} (h : fX5_fitted k p1 σ = some out) : q_Ml l (gX D cI cJ cS ad adK adV) yX5_fitted wsX5_fitted { frames := 0, cells := 0, slots := 0, locals := 0 } [.ref (ad k), .long p1] σ out := by
  refine q_Ml_of (cc := cX5_fitted) (maxL := 3) (ret := (some .long)) (by decide) rfl (Nat.le_of_ble_eq_true rfl) ?_
  intro p e s m below meth c ls C0 hr hlk hl hw
  obtain ⟨hx, hb, hml, hown, hts⟩ := id C0
  replace hl : lv_has ls 3 [(0, .ref (ad k)), (1, .long p1)] := hl
  unfold fX5_fitted at h
  refine lv_aload_n hx hb dX5_fitted_0 rfl (lv_at hl 0 rfl) ?_
  refine gt_X5_0 C0 hw hk iX5_fitted_X5 (by decide +kernel) dX5_fitted_1 ?_
  by_cases c1 : (σ.1 k 0) = (0 : Int32)
  · replace h := q_t h c1
    refine q_tabIn (off := 36) (tgt := 40) C0 c1 dX5_fitted_4 (by decide) (by decide) rfl (by decide) ?_
    refine lv_lload_n hx hb dX5_fitted_40 rfl (lv_at hl 1 rfl) ?_
    refine lv_l2i hx hb dX5_fitted_41 rfl ?_
    refine lv_i2b hx hb dX5_fitted_42 rfl ?_
    refine lv_i2l hx hb dX5_fitted_43 rfl ?_
    exact q_lret h C0 hr hlk hw dX5_fitted_44
  · replace h := q_f h c1
    by_cases c2 : (σ.1 k 0) = (1 : Int32)
    · replace h := q_t h c2
      refine q_tabIn (off := 41) (tgt := 45) C0 c2 dX5_fitted_4 (by decide) (by decide) rfl (by decide) ?_
      refine lv_lload_n hx hb dX5_fitted_45 rfl (lv_at hl 1 rfl) ?_
      refine lv_l2i hx hb dX5_fitted_46 rfl ?_
      refine lv_i2s hx hb dX5_fitted_47 rfl ?_
      refine lv_i2l hx hb dX5_fitted_48 rfl ?_
      exact q_lret h C0 hr hlk hw dX5_fitted_49
    · replace h := q_f h c2
      by_cases c3 : (σ.1 k 0) = (2 : Int32)
      · replace h := q_t h c3
        refine q_tabIn (off := 46) (tgt := 50) C0 c3 dX5_fitted_4 (by decide) (by decide) rfl (by decide) ?_
        refine lv_lload_n hx hb dX5_fitted_50 rfl (lv_at hl 1 rfl) ?_
        refine lv_l2i hx hb dX5_fitted_51 rfl ?_
        refine lv_i2l hx hb dX5_fitted_52 rfl ?_
        exact q_lret h C0 hr hlk hw dX5_fitted_53
      · replace h := q_f h c3
        by_cases c4 : (σ.1 k 0) = (3 : Int32)
        · replace h := q_t h c4
          refine q_tabIn (off := 62) (tgt := 66) C0 c4 dX5_fitted_4 (by decide) (by decide) rfl (by decide) ?_
          refine lv_lload_n hx hb dX5_fitted_66 rfl (lv_at hl 1 rfl) ?_
          exact q_lret h C0 hr hlk hw dX5_fitted_67
        · replace h := q_f h c4
          by_cases c5 : (σ.1 k 0) = (4 : Int32)
          · replace h := q_t h c5
            refine q_tabIn (off := 50) (tgt := 54) C0 c5 dX5_fitted_4 (by decide) (by decide) rfl (by decide) ?_
            refine lv_lload_n hx hb dX5_fitted_54 rfl (lv_at hl 1 rfl) ?_
            refine lv_lconst (v := (0 : Int64)) hx hb dX5_fitted_55 (by decide) ?_
            refine q_lcmp_eq (tgt := 64) C0 dX5_fitted_56 dX5_fitted_57 (by decide) (fun c6 => ?_) (fun c6 => ?_)
            · replace h := q_t h c6
              refine lv_lconst (v := (0 : Int64)) hx hb dX5_fitted_64 (by decide) ?_
              exact q_lret h C0 hr hlk hw dX5_fitted_65
            · replace h := q_f h c6
              refine lv_lconst (v := (1 : Int64)) hx hb dX5_fitted_60 (by decide) ?_
              refine lv_goto (tgt := 65) hx hb dX5_fitted_61 (by decide) ?_
              exact q_lret h C0 hr hlk hw dX5_fitted_65
          · replace h := q_f h c5
            have n_c1 := q_neI (n := 0) c1 (by decide)
            have n_c2 := q_neI (n := 1) c2 (by decide)
            have n_c3 := q_neI (n := 2) c3 (by decide)
            have n_c4 := q_neI (n := 3) c4 (by decide)
            have n_c5 := q_neI (n := 4) c5 (by decide)
            refine lv_tableOut (tgt := 66) hx hb dX5_fitted_4 (by omega) (by decide) ?_
            refine lv_lload_n hx hb dX5_fitted_66 rfl (lv_at hl 1 rfl) ?_
            exact q_lret h C0 hr hlk hw dX5_fitted_67
-- X5_hasRun hasRun(II)Z
theorem iX5_hasRun_X5 : ∀ w ∈ wsX50, w ∈ wsX5_hasRun := by decide +kernel
set_option maxHeartbeats 4000000 in
set_option maxRecDepth 100000 in
theorem kX5_hasRun {k : Nat} {p1 : Int32} {p2 : Int32} (hk : xK k = 16) {σ : q_M} {out : Int32 × q_M} (h : fX5_hasRun k p1 p2 σ = some out) : q_Mi l (gX D cI cJ cS ad adK adV) yX5_hasRun wsX5_hasRun { frames := 0, cells := 0, slots := 0, locals := 0 } [.ref (ad k), .int p1, .int p2] σ out := by
  refine q_Mi_of (cc := cX5_hasRun) (maxL := 3) (ret := (some .boolean)) (by decide) rfl (Nat.le_of_ble_eq_true rfl) ?_
  intro p e s m below meth c ls C0 hr hlk hl hw
  obtain ⟨hx, hb, hml, hown, hts⟩ := id C0
  replace hl : lv_has ls 3 [(0, .ref (ad k)), (1, .int p1), (2, .int p2)] := hl
  unfold fX5_hasRun at h
  refine lv_iload_n hx hb dX5_hasRun_0 rfl (lv_at hl 1 rfl) ?_
  refine lv_if_lt (tgt := 30) hx hb dX5_hasRun_1 (by decide) (fun c1 => ?_) (fun c1 => ?_)
  · replace h := q_t h c1
    refine lv_iconst (v := (0 : Int32)) hx hb dX5_hasRun_30 (by decide) ?_
    exact q_zret h C0 hr rfl hlk hw dX5_hasRun_31
  · replace h := q_f h c1
    refine lv_iload_n hx hb dX5_hasRun_4 rfl (lv_at hl 1 rfl) ?_
    refine lv_aload_n hx hb dX5_hasRun_5 rfl (lv_at hl 0 rfl) ?_
    refine gt_X5_1 C0 hw hk iX5_hasRun_X5 (by decide +kernel) dX5_hasRun_6 ?_
    refine lv_icmp_gt (tgt := 30) hx hb dX5_hasRun_9 (by decide) (fun c2 => ?_) (fun c2 => ?_)
    · replace h := q_t h c2
      refine lv_iconst (v := (0 : Int32)) hx hb dX5_hasRun_30 (by decide) ?_
      exact q_zret h C0 hr rfl hlk hw dX5_hasRun_31
    · replace h := q_f h c2
      refine lv_iload_n hx hb dX5_hasRun_12 rfl (lv_at hl 2 rfl) ?_
      refine lv_if_lt (tgt := 30) hx hb dX5_hasRun_13 (by decide) (fun c3 => ?_) (fun c3 => ?_)
      · replace h := q_t h c3
        refine lv_iconst (v := (0 : Int32)) hx hb dX5_hasRun_30 (by decide) ?_
        exact q_zret h C0 hr rfl hlk hw dX5_hasRun_31
      · replace h := q_f h c3
        refine lv_iload_n hx hb dX5_hasRun_16 rfl (lv_at hl 2 rfl) ?_
        refine lv_aload_n hx hb dX5_hasRun_17 rfl (lv_at hl 0 rfl) ?_
        refine gt_X5_1 C0 hw hk iX5_hasRun_X5 (by decide +kernel) dX5_hasRun_18 ?_
        refine lv_iload_n hx hb dX5_hasRun_21 rfl (lv_at hl 1 rfl) ?_
        refine lv_isub hx hb dX5_hasRun_22 ?_
        refine lv_icmp_gt (tgt := 30) hx hb dX5_hasRun_23 (by decide) (fun c4 => ?_) (fun c4 => ?_)
        · replace h := q_t h c4
          refine lv_iconst (v := (0 : Int32)) hx hb dX5_hasRun_30 (by decide) ?_
          exact q_zret h C0 hr rfl hlk hw dX5_hasRun_31
        · replace h := q_f h c4
          refine lv_iconst (v := (1 : Int32)) hx hb dX5_hasRun_26 (by decide) ?_
          refine lv_goto (tgt := 31) hx hb dX5_hasRun_27 (by decide) ?_
          exact q_zret h C0 hr rfl hlk hw dX5_hasRun_31
-- X5_notZero notZero()J
theorem iX5_notZero_X5 : ∀ w ∈ wsX50, w ∈ wsX5_notZero := by decide +kernel
set_option maxHeartbeats 4000000 in
set_option maxRecDepth 100000 in
theorem tX5_notZero_c4 {k : Nat} (hk : xK k = 16) (C0 : CallFix p m c cX5_notZero 4 s args wsX5_notZero RX5) (hr : meth.sig.returnType = (some .long)) (hlk : meth.locks = false) {out : Int64 × q_M}  : ∀ n : Nat, ∀ (v1 : Int64) (v3 : Int32) (σ : q_M) (H : Heap) (locs : List Loc) (ls : Array Slot), q_H (gX D cI cJ cS ad adK adV) (q_A (gX D cI cJ cS ad adK adV) s.heap.size) s σ H locs → lv_has ls 4 [(0, .ref (ad k)), (1, .long v1), (3, .int v3)] → fX5_notZero_c4 k n v1 v3 σ = some out → W p l e { frames := 0, cells := 0, slots := 0, locals := 0 } s m args below meth c H locs 0 0 (MQ below (q_Rl (gX D cI cJ cS ad adK adV) (q_A (gX D cI cJ cS ad adK adV) s.heap.size) out) args s 0 0 (q_A (gX D cI cJ cS ad adK adV) s.heap.size)) (F0 m 4 ls []) := by
  obtain ⟨hx, hb, hml, hown, hts⟩ := id C0
  intro n
  induction n with
  | zero =>
    intro v1 v3 σ H locs ls  hw hl h
    cases (show (none : Option (Int64 × q_M)) = some out from h)
  | succ n hrec4 =>
    intro v1 v3 σ H locs ls  hw hl h
    replace h : fX5_notZero_c4b k (fX5_notZero_c4 k n) v1 v3 σ = some out := h
    unfold fX5_notZero_c4b at h
    refine lv_iload_n hx hb dX5_notZero_4 rfl (lv_at hl 2 rfl) ?_
    refine lv_aload_n hx hb dX5_notZero_5 rfl (lv_at hl 0 rfl) ?_
    refine gt_X5_1 C0 hw hk iX5_notZero_X5 (by decide +kernel) dX5_notZero_6 ?_
    refine lv_icmp_ge (tgt := 35) hx hb dX5_notZero_9 (by decide) (fun c1 => ?_) (fun c1 => ?_)
    · replace h := q_t h c1
      refine lv_lload_n hx hb dX5_notZero_35 rfl (lv_at hl 1 rfl) ?_
      exact q_lret h C0 hr hlk hw dX5_notZero_36
    · replace h := q_f h c1
      refine lv_aload_n hx hb dX5_notZero_12 rfl (lv_at hl 0 rfl) ?_
      refine gt_X5_2 C0 hw hk iX5_notZero_X5 (by decide +kernel) dX5_notZero_13 ?_
      refine lv_iload_n hx hb dX5_notZero_16 rfl (lv_at hl 2 rfl) ?_
      obtain ⟨b2, h⟩ := q_if h
      refine q_lald (t0 := 1) C0 hw (xN_17 (xD_16_1 hk)) (xE_17 (xD_16_1 hk)) rfl b2 dX5_notZero_17 ?_
      refine lv_lconst (v := (0 : Int64)) hx hb dX5_notZero_18 (by decide) ?_
      refine q_lcmp_eq (tgt := 29) C0 dX5_notZero_19 dX5_notZero_20 (by decide) (fun c3 => ?_) (fun c3 => ?_)
      · replace h := q_t h c3
        refine lv_iinc (v := (v3 + (1 : Int32))) (lv' := [(3, .int (v3 + (1 : Int32))), (0, .ref (ad k)), (1, .long v1)]) hx hb dX5_notZero_29 hl (k := 2) rfl rfl (by decide) rfl (fun ls hl => ?_)
        refine lv_goto (tgt := 4) hx hb dX5_notZero_32 (by decide) ?_
        exact hrec4 v1 (v3 + (1 : Int32)) σ _ _ _ hw (lv_sub hl [1, 2, 0] rfl) h
      · replace h := q_f h c3
        refine lv_lload_n hx hb dX5_notZero_23 rfl (lv_at hl 1 rfl) ?_
        refine lv_lconst (v := (1 : Int64)) hx hb dX5_notZero_24 (by decide) ?_
        refine lv_iload_n hx hb dX5_notZero_25 rfl (lv_at hl 2 rfl) ?_
        refine lv_lshl (v := (q_shl (1 : Int64) v3)) hx hb dX5_notZero_26 rfl ?_
        refine lv_lor hx hb dX5_notZero_27 ?_
        refine lv_topl (fun x4 e_x4 => ?_)
        replace h := q_let_at e_x4 h
        refine lv_lstore_n (lv' := [(1, .long x4), (0, .ref (ad k)), (3, .int v3)]) hx hb dX5_notZero_28 rfl hl (by decide) rfl (fun ls hl => ?_)
        refine lv_iinc (v := (v3 + (1 : Int32))) (lv' := [(3, .int (v3 + (1 : Int32))), (1, .long x4), (0, .ref (ad k))]) hx hb dX5_notZero_29 hl (k := 2) rfl rfl (by decide) rfl (fun ls hl => ?_)
        refine lv_goto (tgt := 4) hx hb dX5_notZero_32 (by decide) ?_
        exact hrec4 x4 (v3 + (1 : Int32)) σ _ _ _ hw (lv_sub hl [2, 1, 0] rfl) h
set_option maxHeartbeats 4000000 in
set_option maxRecDepth 100000 in
theorem kX5_notZero {k : Nat} (hk : xK k = 16) {σ : q_M} {out : Int64 × q_M} (h : fX5_notZero k σ = some out) : q_Ml l (gX D cI cJ cS ad adK adV) yX5_notZero wsX5_notZero { frames := 0, cells := 0, slots := 0, locals := 0 } [.ref (ad k)] σ out := by
  refine q_Ml_of (cc := cX5_notZero) (maxL := 4) (ret := (some .long)) (by decide) rfl (Nat.le_of_ble_eq_true rfl) ?_
  intro p e s m below meth c ls C0 hr hlk hl hw
  obtain ⟨hx, hb, hml, hown, hts⟩ := id C0
  replace hl : lv_has ls 4 [(0, .ref (ad k))] := hl
  unfold fX5_notZero at h
  refine lv_lconst (v := (0 : Int64)) hx hb dX5_notZero_0 (by decide) ?_
  refine lv_lstore_n (lv' := [(1, .long (0 : Int64)), (0, .ref (ad k))]) hx hb dX5_notZero_1 rfl hl (by decide) rfl (fun ls hl => ?_)
  refine lv_iconst (v := (0 : Int32)) hx hb dX5_notZero_2 (by decide) ?_
  refine lv_istore_n (lv' := [(3, .int (0 : Int32)), (1, .long (0 : Int64)), (0, .ref (ad k))]) hx hb dX5_notZero_3 rfl hl (by decide) rfl (fun ls hl => ?_)
  exact tX5_notZero_c4 hk C0 hr hlk q_FU (0 : Int64) (0 : Int32) σ _ _ _ hw (lv_sub hl [2, 1, 0] rfl) h
-- X6_isRow isRow()Z
theorem iX6_isRow_X6 : ∀ w ∈ wsX60, w ∈ wsX6_isRow := by decide +kernel
set_option maxHeartbeats 4000000 in
set_option maxRecDepth 100000 in
theorem kX6_isRow {k : Nat} (hk : xK k = 15) {σ : q_M} {out : Int32 × q_M} (h : fX6_isRow k σ = some out) : q_Mi l (gX D cI cJ cS ad adK adV) yX6_isRow wsX6_isRow { frames := 0, cells := 0, slots := 0, locals := 0 } [.ref (ad k)] σ out := by
  refine q_Mi_of (cc := cX6_isRow) (maxL := 1) (ret := (some .boolean)) (by decide) rfl (Nat.le_of_ble_eq_true rfl) ?_
  intro p e s m below meth c ls C0 hr hlk hl hw
  obtain ⟨hx, hb, hml, hown, hts⟩ := id C0
  replace hl : lv_has ls 1 [(0, .ref (ad k))] := hl
  unfold fX6_isRow at h
  refine lv_aload_n hx hb dX6_isRow_0 rfl (lv_at hl 0 rfl) ?_
  refine gt_X6_0 C0 hw hk iX6_isRow_X6 (by decide +kernel) dX6_isRow_1 ?_
  refine lv_if_lt (tgt := 19) hx hb dX6_isRow_4 (by decide) (fun c1 => ?_) (fun c1 => ?_)
  · replace h := q_t h c1
    refine lv_iconst (v := (0 : Int32)) hx hb dX6_isRow_19 (by decide) ?_
    exact q_zret h C0 hr rfl hlk hw dX6_isRow_20
  · replace h := q_f h c1
    refine lv_aload_n hx hb dX6_isRow_7 rfl (lv_at hl 0 rfl) ?_
    refine gt_X6_0 C0 hw hk iX6_isRow_X6 (by decide +kernel) dX6_isRow_8 ?_
    refine lv_iconst (v := (4 : Int32)) hx hb dX6_isRow_11 (by decide) ?_
    refine lv_icmp_gt (tgt := 19) hx hb dX6_isRow_12 (by decide) (fun c2 => ?_) (fun c2 => ?_)
    · replace h := q_t h c2
      refine lv_iconst (v := (0 : Int32)) hx hb dX6_isRow_19 (by decide) ?_
      exact q_zret h C0 hr rfl hlk hw dX6_isRow_20
    · replace h := q_f h c2
      refine lv_iconst (v := (1 : Int32)) hx hb dX6_isRow_15 (by decide) ?_
      refine lv_goto (tgt := 20) hx hb dX6_isRow_16 (by decide) ?_
      exact q_zret h C0 hr rfl hlk hw dX6_isRow_20
-- X6_isMove isMove()Z
theorem iX6_isMove_X6 : ∀ w ∈ wsX60, w ∈ wsX6_isMove := by decide +kernel
set_option maxHeartbeats 4000000 in
set_option maxRecDepth 100000 in
theorem kX6_isMove {k : Nat} (hk : xK k = 15) {σ : q_M} {out : Int32 × q_M} (h : fX6_isMove k σ = some out) : q_Mi l (gX D cI cJ cS ad adK adV) yX6_isMove wsX6_isMove { frames := 0, cells := 0, slots := 0, locals := 0 } [.ref (ad k)] σ out := by
  refine q_Mi_of (cc := cX6_isMove) (maxL := 1) (ret := (some .boolean)) (by decide) rfl (Nat.le_of_ble_eq_true rfl) ?_
  intro p e s m below meth c ls C0 hr hlk hl hw
  obtain ⟨hx, hb, hml, hown, hts⟩ := id C0
  replace hl : lv_has ls 1 [(0, .ref (ad k))] := hl
  unfold fX6_isMove at h
  refine lv_aload_n hx hb dX6_isMove_0 rfl (lv_at hl 0 rfl) ?_
  refine gt_X6_0 C0 hw hk iX6_isMove_X6 (by decide +kernel) dX6_isMove_1 ?_
  refine lv_bipush (v := (10 : Int32)) hx hb dX6_isMove_4 (by decide) ?_
  refine lv_icmp_le (tgt := 13) hx hb dX6_isMove_6 (by decide) (fun c1 => ?_) (fun c1 => ?_)
  · replace h := q_t h c1
    refine lv_iconst (v := (0 : Int32)) hx hb dX6_isMove_13 (by decide) ?_
    exact q_zret h C0 hr rfl hlk hw dX6_isMove_14
  · replace h := q_f h c1
    refine lv_iconst (v := (1 : Int32)) hx hb dX6_isMove_9 (by decide) ?_
    refine lv_goto (tgt := 14) hx hb dX6_isMove_10 (by decide) ?_
    exact q_zret h C0 hr rfl hlk hw dX6_isMove_14
end
