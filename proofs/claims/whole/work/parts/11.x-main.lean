section
variable {p : Program} {l : Launch} {e : Env} {s : State} {m : MethodId} {args : Array Value} {below : List Frame} {meth : Method} {c : Code} {D : va_G} {cI cJ cS : ClassId} {ad adK adV : Nat → Nat}
-- X8_isShelf isShelf(I)Z
set_option maxHeartbeats 4000000 in
set_option maxRecDepth 100000 in
theorem kX8_isShelf {p0 : Int32}  {σ : q_M} {out : Int32 × q_M} (h : fX8_isShelf p0 σ = some out) : q_Mi l (gX D cI cJ cS ad adK adV) yX8_isShelf wsX8_isShelf { frames := 0, cells := 0, slots := 0, locals := 0 } [.int p0] σ out := by
  refine q_Mi_of (cc := cX8_isShelf) (maxL := 1) (ret := (some .boolean)) (by decide) rfl (Nat.le_of_ble_eq_true rfl) ?_
  intro p e s m below meth c ls C0 hr hlk hl hw
  obtain ⟨hx, hb, hml, hown, hts⟩ := id C0
  replace hl : lv_has ls 1 [(0, .int p0)] := hl
  unfold fX8_isShelf at h
  refine lv_iload_n hx hb dX8_isShelf_0 rfl (lv_at hl 0 rfl) ?_
  refine lv_if_lt (tgt := 14) hx hb dX8_isShelf_1 (by decide) (fun c1 => ?_) (fun c1 => ?_)
  · replace h := q_t h c1
    refine lv_iconst (v := (0 : Int32)) hx hb dX8_isShelf_14 (by decide) ?_
    exact q_zret h C0 hr rfl hlk hw dX8_isShelf_15
  · replace h := q_f h c1
    refine lv_iload_n hx hb dX8_isShelf_4 rfl (lv_at hl 0 rfl) ?_
    refine lv_bipush (v := (8 : Int32)) hx hb dX8_isShelf_5 (by decide) ?_
    refine lv_icmp_ge (tgt := 14) hx hb dX8_isShelf_7 (by decide) (fun c2 => ?_) (fun c2 => ?_)
    · replace h := q_t h c2
      refine lv_iconst (v := (0 : Int32)) hx hb dX8_isShelf_14 (by decide) ?_
      exact q_zret h C0 hr rfl hlk hw dX8_isShelf_15
    · replace h := q_f h c2
      refine lv_iconst (v := (1 : Int32)) hx hb dX8_isShelf_10 (by decide) ?_
      refine lv_goto (tgt := 15) hx hb dX8_isShelf_11 (by decide) ?_
      exact q_zret h C0 hr rfl hlk hw dX8_isShelf_15
-- X8_refuse refuse(I)I
theorem iX8_refuse_X8 : ∀ w ∈ wsX80, w ∈ wsX8_refuse := by decide +kernel
set_option maxHeartbeats 4000000 in
set_option maxRecDepth 100000 in
theorem kX8_refuse {p1 : Int32}  {σ : q_M} {out : Int32 × q_M} (h : fX8_refuse p1 σ = some out) : q_Mi l (gX D cI cJ cS ad adK adV) yX8_refuse wsX8_refuse { frames := 0, cells := 0, slots := 0, locals := 0 } [.ref (ad 0), .int p1] σ out := by
  refine q_Mi_of (cc := cX8_refuse) (maxL := 3) (ret := (some .int)) (by decide) rfl (Nat.le_of_ble_eq_true rfl) ?_
  intro p e s m below meth c ls C0 hr hlk hl hw
  obtain ⟨hx, hb, hml, hown, hts⟩ := id C0
  replace hl : lv_has ls 3 [(0, .ref (ad 0)), (1, .int p1)] := hl
  unfold fX8_refuse at h
  refine lv_bipush (v := (-2 : Int32)) hx hb dX8_refuse_0 (by decide) ?_
  refine lv_iload_n hx hb dX8_refuse_2 rfl (lv_at hl 1 rfl) ?_
  refine lv_isub hx hb dX8_refuse_3 ?_
  refine lv_istore_n (lv' := [(2, .int ((-2 : Int32) - p1)), (0, .ref (ad 0)), (1, .int p1)]) hx hb dX8_refuse_4 rfl hl (by decide) rfl (fun ls hl => ?_)
  refine lv_iload_n hx hb dX8_refuse_5 rfl (lv_at hl 0 rfl) ?_
  refine lv_if_lt (tgt := 24) hx hb dX8_refuse_6 (by decide) (fun c1 => ?_) (fun c1 => ?_)
  · replace h := q_t h c1
    refine lv_iload_n hx hb dX8_refuse_24 rfl (lv_at hl 2 rfl) ?_
    exact q_iret h C0 hr hlk hw dX8_refuse_25
  · replace h := q_f h c1
    refine lv_iload_n hx hb dX8_refuse_9 rfl (lv_at hl 0 rfl) ?_
    refine lv_iconst (v := (5 : Int32)) hx hb dX8_refuse_10 (by decide) ?_
    refine lv_icmp_ge (tgt := 24) hx hb dX8_refuse_11 (by decide) (fun c2 => ?_) (fun c2 => ?_)
    · replace h := q_t h c2
      refine lv_iload_n hx hb dX8_refuse_24 rfl (lv_at hl 2 rfl) ?_
      exact q_iret h C0 hr hlk hw dX8_refuse_25
    · replace h := q_f h c2
      refine lv_aload_n hx hb dX8_refuse_14 rfl (lv_at hl 1 rfl) ?_
      refine gt_X8_7 C0 hw xF_0 iX8_refuse_X8 (by decide +kernel) dX8_refuse_15 ?_
      refine lv_iload_n hx hb dX8_refuse_18 rfl (lv_at hl 0 rfl) ?_
      refine lv_dup2_11 hx hb dX8_refuse_19 rfl rfl ?_
      obtain ⟨b3, h⟩ := q_if h
      refine q_iald (t0 := 0) C0 hw (xN_13 xF_28) (xE_13 xF_28) rfl b3 dX8_refuse_20 ?_
      refine lv_iconst (v := (1 : Int32)) hx hb dX8_refuse_21 (by decide) ?_
      refine lv_iadd hx hb dX8_refuse_22 ?_
      obtain ⟨b4, h⟩ := q_if h
      refine q_iast (t0 := 0) C0 hw (xN_13 xF_28) (xE_13 xF_28) rfl b4 dX8_refuse_23 (fun σ5 H locs e_σ5 hw => ?_)
      replace h := q_let_at e_σ5 h
      refine lv_iload_n hx hb dX8_refuse_24 rfl (lv_at hl 2 rfl) ?_
      exact q_iret h C0 hr hlk hw dX8_refuse_25
-- X8_row row(III)I
theorem iX8_row_X6 : ∀ w ∈ wsX60, w ∈ wsX8_row := by decide +kernel
theorem iX8_row_X8 : ∀ w ∈ wsX80, w ∈ wsX8_row := by decide +kernel
theorem eX5_become : yX5_become.cls = RX5 ∧ yX5_become.cls ≠ "java/lang/invoke/MethodHandle" ∧ yX5_become.cls ≠ "java/lang/invoke/VarHandle" ∧ (parseMethodDescriptor yX5_become.desc).map (fun d => d.parameters.length) = some 2 := by decide +kernel
theorem eX8_isShelf : yX8_isShelf.cls ≠ "java/lang/invoke/MethodHandle" ∧ yX8_isShelf.cls ≠ "java/lang/invoke/VarHandle" ∧ (parseMethodDescriptor yX8_isShelf.desc).map (fun d => d.parameters.length) = some 1 := by decide +kernel
theorem eX8_refuse : yX8_refuse.cls = RX8 ∧ yX8_refuse.cls ≠ "java/lang/invoke/MethodHandle" ∧ yX8_refuse.cls ≠ "java/lang/invoke/VarHandle" ∧ (parseMethodDescriptor yX8_refuse.desc).map (fun d => d.parameters.length) = some 1 := by decide +kernel
set_option maxHeartbeats 4000000 in
set_option maxRecDepth 100000 in
theorem kX8_row {p1 : Int32} {p2 : Int32} {p3 : Int32}  {σ : q_M} {out : Int32 × q_M} (h : fX8_row p1 p2 p3 σ = some out) : q_Mi l (gX D cI cJ cS ad adK adV) yX8_row wsX8_row { frames := 2, cells := 0, slots := 0, locals := 46 } [.ref (ad 0), .int p1, .int p2, .int p3] σ out := by
  refine q_Mi_of (cc := cX8_row) (maxL := 4) (ret := (some .int)) (by decide) rfl (Nat.le_of_ble_eq_true rfl) ?_
  intro p e s m below meth c ls C0 hr hlk hl hw
  obtain ⟨hx, hb, hml, hown, hts⟩ := id C0
  replace hl : lv_has ls 4 [(0, .ref (ad 0)), (1, .int p1), (2, .int p2), (3, .int p3)] := hl
  unfold fX8_row at h
  refine lv_iload_n hx hb dX8_row_0 rfl (lv_at hl 1 rfl) ?_
  obtain ⟨o1, hco1, h⟩ := q_bind h
  refine q_calli hw (va_runS (As := [.int p1]) (rest := []) C0 (kX8_isShelf hco1 _) (va_cwS 1 hts gX8_row_X8_isShelf rfl rfl rfl eX8_isShelf ⟨(Nat.le_of_ble_eq_true rfl), (Nat.le_of_ble_eq_true rfl)⟩) ⟨q_blind, q_pre hw⟩ rfl rfl hl.1 rfl (lv_room (Nat.le_of_ble_eq_true rfl)) dX8_row_1 ⟨Nat.zero_le _, Nat.zero_le _⟩) (fun H locs hw => ?_)
  refine lv_if_eq (tgt := 26) hx hb dX8_row_4 (by decide) (fun c2 => ?_) (fun c2 => ?_)
  · replace h := q_t h c2
    refine lv_aload_n hx hb dX8_row_26 rfl (lv_at hl 0 rfl) ?_
    refine lv_bipush (v := (-2 : Int32)) hx hb dX8_row_27 (by decide) ?_
    obtain ⟨o3, hco3, h⟩ := q_bind h
    refine q_calli hw (va_runV (As := [.int (-2 : Int32)]) (rest := []) C0 (kX8_refuse hco3 _) (cwV 1 hts gX8_row_X8_refuse rfl rfl rfl eX8_refuse ⟨(Nat.le_of_ble_eq_true rfl), (Nat.le_of_ble_eq_true rfl)⟩) ⟨q_blind, q_recv hw (xN_0 xF_0) (xE_0 xF_0) rfl, q_pre hw⟩ rfl rfl hl.1 rfl (lv_room (Nat.le_of_ble_eq_true rfl)) dX8_row_29 ⟨Nat.zero_le _, Nat.zero_le _⟩) (fun H locs hw => ?_)
    exact q_iret h C0 hr hlk hw dX8_row_32
  · replace h := q_f h c2
    refine lv_iload_n hx hb dX8_row_7 rfl (lv_at hl 2 rfl) ?_
    refine lv_if_lt (tgt := 26) hx hb dX8_row_8 (by decide) (fun c4 => ?_) (fun c4 => ?_)
    · replace h := q_t h c4
      refine lv_aload_n hx hb dX8_row_26 rfl (lv_at hl 0 rfl) ?_
      refine lv_bipush (v := (-2 : Int32)) hx hb dX8_row_27 (by decide) ?_
      obtain ⟨o5, hco5, h⟩ := q_bind h
      refine q_calli hw (va_runV (As := [.int (-2 : Int32)]) (rest := []) C0 (kX8_refuse hco5 _) (cwV 1 hts gX8_row_X8_refuse rfl rfl rfl eX8_refuse ⟨(Nat.le_of_ble_eq_true rfl), (Nat.le_of_ble_eq_true rfl)⟩) ⟨q_blind, q_recv hw (xN_0 xF_0) (xE_0 xF_0) rfl, q_pre hw⟩ rfl rfl hl.1 rfl (lv_room (Nat.le_of_ble_eq_true rfl)) dX8_row_29 ⟨Nat.zero_le _, Nat.zero_le _⟩) (fun H locs hw => ?_)
      exact q_iret h C0 hr hlk hw dX8_row_32
    · replace h := q_f h c4
      refine lv_iload_n hx hb dX8_row_11 rfl (lv_at hl 2 rfl) ?_
      refine lv_iconst (v := (4 : Int32)) hx hb dX8_row_12 (by decide) ?_
      refine lv_icmp_gt (tgt := 26) hx hb dX8_row_13 (by decide) (fun c6 => ?_) (fun c6 => ?_)
      · replace h := q_t h c6
        refine lv_aload_n hx hb dX8_row_26 rfl (lv_at hl 0 rfl) ?_
        refine lv_bipush (v := (-2 : Int32)) hx hb dX8_row_27 (by decide) ?_
        obtain ⟨o7, hco7, h⟩ := q_bind h
        refine q_calli hw (va_runV (As := [.int (-2 : Int32)]) (rest := []) C0 (kX8_refuse hco7 _) (cwV 1 hts gX8_row_X8_refuse rfl rfl rfl eX8_refuse ⟨(Nat.le_of_ble_eq_true rfl), (Nat.le_of_ble_eq_true rfl)⟩) ⟨q_blind, q_recv hw (xN_0 xF_0) (xE_0 xF_0) rfl, q_pre hw⟩ rfl rfl hl.1 rfl (lv_room (Nat.le_of_ble_eq_true rfl)) dX8_row_29 ⟨Nat.zero_le _, Nat.zero_le _⟩) (fun H locs hw => ?_)
        exact q_iret h C0 hr hlk hw dX8_row_32
      · replace h := q_f h c6
        refine lv_iload_n hx hb dX8_row_16 rfl (lv_at hl 3 rfl) ?_
        refine lv_if_lt (tgt := 26) hx hb dX8_row_17 (by decide) (fun c8 => ?_) (fun c8 => ?_)
        · replace h := q_t h c8
          refine lv_aload_n hx hb dX8_row_26 rfl (lv_at hl 0 rfl) ?_
          refine lv_bipush (v := (-2 : Int32)) hx hb dX8_row_27 (by decide) ?_
          obtain ⟨o9, hco9, h⟩ := q_bind h
          refine q_calli hw (va_runV (As := [.int (-2 : Int32)]) (rest := []) C0 (kX8_refuse hco9 _) (cwV 1 hts gX8_row_X8_refuse rfl rfl rfl eX8_refuse ⟨(Nat.le_of_ble_eq_true rfl), (Nat.le_of_ble_eq_true rfl)⟩) ⟨q_blind, q_recv hw (xN_0 xF_0) (xE_0 xF_0) rfl, q_pre hw⟩ rfl rfl hl.1 rfl (lv_room (Nat.le_of_ble_eq_true rfl)) dX8_row_29 ⟨Nat.zero_le _, Nat.zero_le _⟩) (fun H locs hw => ?_)
          exact q_iret h C0 hr hlk hw dX8_row_32
        · replace h := q_f h c8
          refine lv_iload_n hx hb dX8_row_20 rfl (lv_at hl 3 rfl) ?_
          refine lv_bipush (v := (40 : Int32)) hx hb dX8_row_21 (by decide) ?_
          refine lv_icmp_le (tgt := 33) hx hb dX8_row_23 (by decide) (fun c10 => ?_) (fun c10 => ?_)
          · replace h := q_t h c10
            refine lv_aload_n hx hb dX8_row_33 rfl (lv_at hl 0 rfl) ?_
            refine gt_X8_4 C0 hw xF_0 iX8_row_X8 (by decide +kernel) dX8_row_34 ?_
            refine lv_iload_n hx hb dX8_row_37 rfl (lv_at hl 1 rfl) ?_
            obtain ⟨b11, h⟩ := q_if h
            refine q_aald (t0 := 2) C0 hw (xN_8 xF_22) (xE_8 xF_22) rfl b11 rfl dX8_row_38 ?_
            refine lv_iload_n hx hb dX8_row_39 rfl (lv_at hl 2 rfl) ?_
            refine pt_X6_0 C0 hw (xSh b11) iX8_row_X6 (by decide +kernel) dX8_row_40 (fun σ12 H locs e_σ12 hw => ?_)
            replace h := q_let_at e_σ12 h
            refine lv_aload_n hx hb dX8_row_43 rfl (lv_at hl 0 rfl) ?_
            refine gt_X8_4 C0 hw xF_0 iX8_row_X8 (by decide +kernel) dX8_row_44 ?_
            refine lv_iload_n hx hb dX8_row_47 rfl (lv_at hl 1 rfl) ?_
            obtain ⟨b13, h⟩ := q_if h
            refine q_aald (t0 := 2) C0 hw (xN_8 xF_22) (xE_8 xF_22) rfl b13 rfl dX8_row_48 ?_
            refine gt_X6_1 C0 hw (xSh b13) iX8_row_X6 (by decide +kernel) dX8_row_49 ?_
            refine lv_iload_n hx hb dX8_row_52 rfl (lv_at hl 2 rfl) ?_
            refine lv_iload_n hx hb dX8_row_53 rfl (lv_at hl 3 rfl) ?_
            obtain ⟨o14, hco14, h⟩ := q_bind h
            refine q_callv hw (va_runV (As := [.int p2, .int p3]) (rest := []) C0 (kX5_become (xD_15_1 (xSh b13)) hco14 _) (cwV 2 hts gX8_row_X5_become rfl rfl rfl eX5_become ⟨(Nat.le_of_ble_eq_true rfl), (Nat.le_of_ble_eq_true rfl)⟩) ⟨q_blind, q_recv hw (xN_16 (xD_15_1 (xSh b13))) (xE_16 (xD_15_1 (xSh b13))) rfl, q_pre hw⟩ rfl rfl hl.1 rfl (lv_room (Nat.le_of_ble_eq_true rfl)) dX8_row_54 ⟨Nat.zero_le _, Nat.zero_le _⟩) (fun H locs hw => ?_)
            refine lv_iconst (v := (1 : Int32)) hx hb dX8_row_57 (by decide) ?_
            exact q_iret h C0 hr hlk hw dX8_row_58
          · replace h := q_f h c10
            refine lv_aload_n hx hb dX8_row_26 rfl (lv_at hl 0 rfl) ?_
            refine lv_bipush (v := (-2 : Int32)) hx hb dX8_row_27 (by decide) ?_
            obtain ⟨o15, hco15, h⟩ := q_bind h
            refine q_calli hw (va_runV (As := [.int (-2 : Int32)]) (rest := []) C0 (kX8_refuse hco15 _) (cwV 1 hts gX8_row_X8_refuse rfl rfl rfl eX8_refuse ⟨(Nat.le_of_ble_eq_true rfl), (Nat.le_of_ble_eq_true rfl)⟩) ⟨q_blind, q_recv hw (xN_0 xF_0) (xE_0 xF_0) rfl, q_pre hw⟩ rfl rfl hl.1 rfl (lv_room (Nat.le_of_ble_eq_true rfl)) dX8_row_29 ⟨Nat.zero_le _, Nat.zero_le _⟩) (fun H locs hw => ?_)
            exact q_iret h C0 hr hlk hw dX8_row_32
-- X8_rowRefusal rowRefusal(I)I
theorem iX8_rowRefusal_X8 : ∀ w ∈ wsX80, w ∈ wsX8_rowRefusal := by decide +kernel
theorem eX6_isMove : yX6_isMove.cls = RX6 ∧ yX6_isMove.cls ≠ "java/lang/invoke/MethodHandle" ∧ yX6_isMove.cls ≠ "java/lang/invoke/VarHandle" ∧ (parseMethodDescriptor yX6_isMove.desc).map (fun d => d.parameters.length) = some 0 := by decide +kernel
theorem eX6_isRow : yX6_isRow.cls = RX6 ∧ yX6_isRow.cls ≠ "java/lang/invoke/MethodHandle" ∧ yX6_isRow.cls ≠ "java/lang/invoke/VarHandle" ∧ (parseMethodDescriptor yX6_isRow.desc).map (fun d => d.parameters.length) = some 0 := by decide +kernel
set_option maxHeartbeats 4000000 in
set_option maxRecDepth 100000 in
theorem kX8_rowRefusal {p1 : Int32}  {σ : q_M} {out : Int32 × q_M} (h : fX8_rowRefusal p1 σ = some out) : q_Mi l (gX D cI cJ cS ad adK adV) yX8_rowRefusal wsX8_rowRefusal { frames := 1, cells := 0, slots := 0, locals := 20 } [.ref (ad 0), .int p1] σ out := by
  refine q_Mi_of (cc := cX8_rowRefusal) (maxL := 2) (ret := (some .int)) (by decide) rfl (Nat.le_of_ble_eq_true rfl) ?_
  intro p e s m below meth c ls C0 hr hlk hl hw
  obtain ⟨hx, hb, hml, hown, hts⟩ := id C0
  replace hl : lv_has ls 2 [(0, .ref (ad 0)), (1, .int p1)] := hl
  unfold fX8_rowRefusal at h
  refine lv_iload_n hx hb dX8_rowRefusal_0 rfl (lv_at hl 1 rfl) ?_
  obtain ⟨o1, hco1, h⟩ := q_bind h
  refine q_calli hw (va_runS (As := [.int p1]) (rest := []) C0 (kX8_isShelf hco1 _) (va_cwS 1 hts gX8_rowRefusal_X8_isShelf rfl rfl rfl eX8_isShelf ⟨(Nat.le_of_ble_eq_true rfl), (Nat.le_of_ble_eq_true rfl)⟩) ⟨q_blind, q_pre hw⟩ rfl rfl hl.1 rfl (lv_room (Nat.le_of_ble_eq_true rfl)) dX8_rowRefusal_1 ⟨Nat.zero_le _, Nat.zero_le _⟩) (fun H locs hw => ?_)
  refine lv_if_ne (tgt := 10) hx hb dX8_rowRefusal_4 (by decide) (fun c2 => ?_) (fun c2 => ?_)
  · replace h := q_f h c2
    refine lv_aload_n hx hb dX8_rowRefusal_10 rfl (lv_at hl 0 rfl) ?_
    refine gt_X8_4 C0 hw xF_0 iX8_rowRefusal_X8 (by decide +kernel) dX8_rowRefusal_11 ?_
    refine lv_iload_n hx hb dX8_rowRefusal_14 rfl (lv_at hl 1 rfl) ?_
    obtain ⟨b3, h⟩ := q_if h
    refine q_aald (t0 := 2) C0 hw (xN_8 xF_22) (xE_8 xF_22) rfl b3 rfl dX8_rowRefusal_15 ?_
    obtain ⟨o4, hco4, h⟩ := q_bind h
    refine q_calli hw (va_runV (As := []) (rest := []) C0 (kX6_isMove (xSh b3) hco4 _) (cwV 0 hts gX8_rowRefusal_X6_isMove rfl rfl rfl eX6_isMove ⟨(Nat.le_of_ble_eq_true rfl), (Nat.le_of_ble_eq_true rfl)⟩) ⟨q_blind, q_recv hw (xN_15 (xSh b3)) (xE_15 (xSh b3)) rfl, q_pre hw⟩ rfl rfl hl.1 rfl (lv_room (Nat.le_of_ble_eq_true rfl)) dX8_rowRefusal_16 ⟨Nat.zero_le _, Nat.zero_le _⟩) (fun H locs hw => ?_)
    refine lv_if_eq (tgt := 25) hx hb dX8_rowRefusal_19 (by decide) (fun c5 => ?_) (fun c5 => ?_)
    · replace h := q_t h c5
      refine lv_aload_n hx hb dX8_rowRefusal_25 rfl (lv_at hl 0 rfl) ?_
      refine gt_X8_4 C0 hw xF_0 iX8_rowRefusal_X8 (by decide +kernel) dX8_rowRefusal_26 ?_
      refine lv_iload_n hx hb dX8_rowRefusal_29 rfl (lv_at hl 1 rfl) ?_
      obtain ⟨b6, h⟩ := q_if h
      refine q_aald (t0 := 2) C0 hw (xN_8 xF_22) (xE_8 xF_22) rfl b6 rfl dX8_rowRefusal_30 ?_
      obtain ⟨o7, hco7, h⟩ := q_bind h
      refine q_calli hw (va_runV (As := []) (rest := []) C0 (kX6_isRow (xSh b6) hco7 _) (cwV 0 hts gX8_rowRefusal_X6_isRow rfl rfl rfl eX6_isRow ⟨(Nat.le_of_ble_eq_true rfl), (Nat.le_of_ble_eq_true rfl)⟩) ⟨q_blind, q_recv hw (xN_15 (xSh b6)) (xE_15 (xSh b6)) rfl, q_pre hw⟩ rfl rfl hl.1 rfl (lv_room (Nat.le_of_ble_eq_true rfl)) dX8_rowRefusal_31 ⟨Nat.zero_le _, Nat.zero_le _⟩) (fun H locs hw => ?_)
      refine lv_if_eq (tgt := 41) hx hb dX8_rowRefusal_34 (by decide) (fun c8 => ?_) (fun c8 => ?_)
      · replace h := q_t h c8
        refine lv_bipush (v := (-4 : Int32)) hx hb dX8_rowRefusal_41 (by decide) ?_
        exact q_iret h C0 hr hlk hw dX8_rowRefusal_43
      · replace h := q_f h c8
        refine lv_iconst (v := (0 : Int32)) hx hb dX8_rowRefusal_37 (by decide) ?_
        refine lv_goto (tgt := 43) hx hb dX8_rowRefusal_38 (by decide) ?_
        exact q_iret h C0 hr hlk hw dX8_rowRefusal_43
    · replace h := q_f h c5
      refine lv_bipush (v := (-3 : Int32)) hx hb dX8_rowRefusal_22 (by decide) ?_
      exact q_iret h C0 hr hlk hw dX8_rowRefusal_24
  · replace h := q_t h c2
    refine lv_bipush (v := (-2 : Int32)) hx hb dX8_rowRefusal_7 (by decide) ?_
    exact q_iret h C0 hr hlk hw dX8_rowRefusal_9
-- X8_set set(IIJ)I
theorem iX8_set_X5 : ∀ w ∈ wsX50, w ∈ wsX8_set := by decide +kernel
theorem iX8_set_X6 : ∀ w ∈ wsX60, w ∈ wsX8_set := by decide +kernel
theorem iX8_set_X8 : ∀ w ∈ wsX80, w ∈ wsX8_set := by decide +kernel
theorem eX5_fitted : yX5_fitted.cls = RX5 ∧ yX5_fitted.cls ≠ "java/lang/invoke/MethodHandle" ∧ yX5_fitted.cls ≠ "java/lang/invoke/VarHandle" ∧ (parseMethodDescriptor yX5_fitted.desc).map (fun d => d.parameters.length) = some 1 := by decide +kernel
theorem eX8_rowRefusal : yX8_rowRefusal.cls = RX8 ∧ yX8_rowRefusal.cls ≠ "java/lang/invoke/MethodHandle" ∧ yX8_rowRefusal.cls ≠ "java/lang/invoke/VarHandle" ∧ (parseMethodDescriptor yX8_rowRefusal.desc).map (fun d => d.parameters.length) = some 1 := by decide +kernel
set_option maxHeartbeats 4000000 in
set_option maxRecDepth 100000 in
theorem kX8_set {p1 : Int32} {p2 : Int32} {p3 : Int64}  {σ : q_M} {out : Int32 × q_M} (h : fX8_set p1 p2 p3 σ = some out) : q_Mi l (gX D cI cJ cS ad adK adV) yX8_set wsX8_set { frames := 2, cells := 0, slots := 0, locals := 41 } [.ref (ad 0), .int p1, .int p2, .long p3] σ out := by
  refine q_Mi_of (cc := cX8_set) (maxL := 7) (ret := (some .int)) (by decide) rfl (Nat.le_of_ble_eq_true rfl) ?_
  intro p e s m below meth c ls C0 hr hlk hl hw
  obtain ⟨hx, hb, hml, hown, hts⟩ := id C0
  replace hl : lv_has ls 7 [(0, .ref (ad 0)), (1, .int p1), (2, .int p2), (3, .long p3)] := hl
  unfold fX8_set at h
  refine lv_aload_n hx hb dX8_set_0 rfl (lv_at hl 0 rfl) ?_
  refine lv_iload_n hx hb dX8_set_1 rfl (lv_at hl 1 rfl) ?_
  obtain ⟨o1, hco1, h⟩ := q_bind h
  refine q_calli hw (va_runV (As := [.int p1]) (rest := []) C0 (kX8_rowRefusal hco1 _) (cwV 1 hts gX8_set_X8_rowRefusal rfl rfl rfl eX8_rowRefusal ⟨(Nat.le_of_ble_eq_true rfl), (Nat.le_of_ble_eq_true rfl)⟩) ⟨q_blind, q_recv hw (xN_0 xF_0) (xE_0 xF_0) rfl, q_pre hw⟩ rfl rfl hl.1 rfl (lv_room (Nat.le_of_ble_eq_true rfl)) dX8_set_2 ⟨Nat.zero_le _, Nat.zero_le _⟩) (fun H locs hw => ?_)
  refine lv_istore (lv' := [(5, .int o1.1), (0, .ref (ad 0)), (1, .int p1), (2, .int p2), (3, .long p3)]) hx hb dX8_set_5 hl (by decide) rfl (fun ls hl => ?_)
  refine lv_iload hx hb dX8_set_7 (lv_at hl 0 rfl) ?_
  refine lv_if_eq (tgt := 19) hx hb dX8_set_9 (by decide) (fun c2 => ?_) (fun c2 => ?_)
  · replace h := q_t h c2
    refine lv_aload_n hx hb dX8_set_19 rfl (lv_at hl 1 rfl) ?_
    refine gt_X8_4 C0 hw xF_0 iX8_set_X8 (by decide +kernel) dX8_set_20 ?_
    refine lv_iload_n hx hb dX8_set_23 rfl (lv_at hl 2 rfl) ?_
    obtain ⟨b3, h⟩ := q_if h
    refine q_aald (t0 := 2) C0 hw (xN_8 xF_22) (xE_8 xF_22) rfl b3 rfl dX8_set_24 ?_
    refine gt_X6_1 C0 hw (xSh b3) iX8_set_X6 (by decide +kernel) dX8_set_25 ?_
    refine lv_astore (lv' := [(6, .ref (ad ((31 + 4 * p1.toNatClampNeg) + 1))), (5, .int o1.1), (0, .ref (ad 0)), (1, .int p1), (2, .int p2), (3, .long p3)]) hx hb dX8_set_28 hl (by decide) rfl (fun ls hl => ?_)
    refine lv_iload_n hx hb dX8_set_30 rfl (lv_at hl 4 rfl) ?_
    refine lv_if_lt (tgt := 43) hx hb dX8_set_31 (by decide) (fun c4 => ?_) (fun c4 => ?_)
    · replace h := q_t h c4
      refine lv_aload_n hx hb dX8_set_43 rfl (lv_at hl 2 rfl) ?_
      refine lv_bipush (v := (-2 : Int32)) hx hb dX8_set_44 (by decide) ?_
      obtain ⟨o5, hco5, h⟩ := q_bind h
      refine q_calli hw (va_runV (As := [.int (-2 : Int32)]) (rest := []) C0 (kX8_refuse hco5 _) (cwV 1 hts gX8_set_X8_refuse rfl rfl rfl eX8_refuse ⟨(Nat.le_of_ble_eq_true rfl), (Nat.le_of_ble_eq_true rfl)⟩) ⟨q_blind, q_recv hw (xN_0 xF_0) (xE_0 xF_0) rfl, q_pre hw⟩ rfl rfl hl.1 rfl (lv_room (Nat.le_of_ble_eq_true rfl)) dX8_set_46 ⟨Nat.zero_le _, Nat.zero_le _⟩) (fun H locs hw => ?_)
      exact q_iret h C0 hr hlk hw dX8_set_49
    · replace h := q_f h c4
      refine lv_iload_n hx hb dX8_set_34 rfl (lv_at hl 4 rfl) ?_
      refine lv_aload hx hb dX8_set_35 (lv_at hl 0 rfl) ?_
      refine gt_X5_1 C0 hw (xD_15_1 (xSh b3)) iX8_set_X5 (by decide +kernel) dX8_set_37 ?_
      refine lv_icmp_lt (tgt := 50) hx hb dX8_set_40 (by decide) (fun c6 => ?_) (fun c6 => ?_)
      · replace h := q_t h c6
        refine lv_aload hx hb dX8_set_50 (lv_at hl 0 rfl) ?_
        refine gt_X5_2 C0 hw (xD_15_1 (xSh b3)) iX8_set_X5 (by decide +kernel) dX8_set_52 ?_
        refine lv_iload_n hx hb dX8_set_55 rfl (lv_at hl 4 rfl) ?_
        refine lv_aload hx hb dX8_set_56 (lv_at hl 0 rfl) ?_
        refine lv_lload_n hx hb dX8_set_58 rfl (lv_at hl 5 rfl) ?_
        obtain ⟨o7, hco7, h⟩ := q_bind h
        refine q_calll hw (va_runV (As := [.long p3]) (rest := [.int p2, .ref (ad (((31 + 4 * p1.toNatClampNeg) + 1) + 1))]) C0 (kX5_fitted (xD_15_1 (xSh b3)) hco7 _) (cwV 1 hts gX8_set_X5_fitted rfl rfl rfl eX5_fitted ⟨(Nat.le_of_ble_eq_true rfl), (Nat.le_of_ble_eq_true rfl)⟩) ⟨q_blind, q_recv hw (xN_16 (xD_15_1 (xSh b3))) (xE_16 (xD_15_1 (xSh b3))) rfl, q_pre hw⟩ rfl rfl hl.1 rfl (lv_room (Nat.le_of_ble_eq_true rfl)) dX8_set_59 ⟨Nat.zero_le _, Nat.zero_le _⟩) (fun H locs hw => ?_)
        obtain ⟨b8, h⟩ := q_if h
        refine q_last (t0 := 1) C0 hw (xN_17 (xD_16_1 (xD_15_1 (xSh b3)))) (xE_17 (xD_16_1 (xD_15_1 (xSh b3)))) rfl b8 dX8_set_62 (fun σ9 H locs e_σ9 hw => ?_)
        replace h := q_let_at e_σ9 h
        refine lv_iconst (v := (1 : Int32)) hx hb dX8_set_63 (by decide) ?_
        exact q_iret h C0 hr hlk hw dX8_set_64
      · replace h := q_f h c6
        refine lv_aload_n hx hb dX8_set_43 rfl (lv_at hl 2 rfl) ?_
        refine lv_bipush (v := (-2 : Int32)) hx hb dX8_set_44 (by decide) ?_
        obtain ⟨o10, hco10, h⟩ := q_bind h
        refine q_calli hw (va_runV (As := [.int (-2 : Int32)]) (rest := []) C0 (kX8_refuse hco10 _) (cwV 1 hts gX8_set_X8_refuse rfl rfl rfl eX8_refuse ⟨(Nat.le_of_ble_eq_true rfl), (Nat.le_of_ble_eq_true rfl)⟩) ⟨q_blind, q_recv hw (xN_0 xF_0) (xE_0 xF_0) rfl, q_pre hw⟩ rfl rfl hl.1 rfl (lv_room (Nat.le_of_ble_eq_true rfl)) dX8_set_46 ⟨Nat.zero_le _, Nat.zero_le _⟩) (fun H locs hw => ?_)
        exact q_iret h C0 hr hlk hw dX8_set_49
  · replace h := q_f h c2
    refine lv_aload_n hx hb dX8_set_12 rfl (lv_at hl 1 rfl) ?_
    refine lv_iload hx hb dX8_set_13 (lv_at hl 0 rfl) ?_
    obtain ⟨o11, hco11, h⟩ := q_bind h
    refine q_calli hw (va_runV (As := [.int o1.1]) (rest := []) C0 (kX8_refuse hco11 _) (cwV 1 hts gX8_set_X8_refuse rfl rfl rfl eX8_refuse ⟨(Nat.le_of_ble_eq_true rfl), (Nat.le_of_ble_eq_true rfl)⟩) ⟨q_blind, q_recv hw (xN_0 xF_0) (xE_0 xF_0) rfl, q_pre hw⟩ rfl rfl hl.1 rfl (lv_room (Nat.le_of_ble_eq_true rfl)) dX8_set_15 ⟨Nat.zero_le _, Nat.zero_le _⟩) (fun H locs hw => ?_)
    exact q_iret h C0 hr hlk hw dX8_set_18
-- X8_copy copy(IIIII)I
theorem iX8_copy_X5 : ∀ w ∈ wsX50, w ∈ wsX8_copy := by decide +kernel
theorem iX8_copy_X6 : ∀ w ∈ wsX60, w ∈ wsX8_copy := by decide +kernel
theorem iX8_copy_X8 : ∀ w ∈ wsX80, w ∈ wsX8_copy := by decide +kernel
theorem eX5_hasRun : yX5_hasRun.cls = RX5 ∧ yX5_hasRun.cls ≠ "java/lang/invoke/MethodHandle" ∧ yX5_hasRun.cls ≠ "java/lang/invoke/VarHandle" ∧ (parseMethodDescriptor yX5_hasRun.desc).map (fun d => d.parameters.length) = some 2 := by decide +kernel
set_option maxHeartbeats 4000000 in
set_option maxRecDepth 100000 in
theorem tX8_copy_c96 {p1 : Int32} {p2 : Int32} {p3 : Int32} {p4 : Int32} {p5 : Int32}  (C0 : CallFix p m c cX8_copy 8 s args wsX8_copy RX8) (hr : meth.sig.returnType = (some .int)) (hlk : meth.locks = false) {out : Int32 × q_M}  : ∀ (j6 : Nat) (j7 : Nat) (σ : q_M) (H : Heap) (locs : List Loc) (ls : Array Slot), xK j6 = 15 → xK j7 = 15 → q_H (gX D cI cJ cS ad adK adV) (q_A (gX D cI cJ cS ad adK adV) s.heap.size) s σ H locs → lv_has ls 8 [(0, .ref (ad 0)), (3, .int p3), (4, .int p4), (5, .int p5), (6, .ref (ad j6)), (7, .ref (ad j7))] → fX8_copy_c96 p1 p2 p3 p4 p5 j6 j7 σ = some out → W p l e { frames := 1, cells := 0, slots := 0, locals := 26 } s m args below meth c H locs 0 0 (MQ below (q_Ri (gX D cI cJ cS ad adK adV) (q_A (gX D cI cJ cS ad adK adV) s.heap.size) out) args s 0 0 (q_A (gX D cI cJ cS ad adK adV) s.heap.size)) (F0 m 96 ls []) := by
  obtain ⟨hx, hb, hml, hown, hts⟩ := id C0
  intro j6 j7 σ H locs ls hj6 hj7 hw hl h
  unfold fX8_copy_c96 at h
  refine lv_aload hx hb dX8_copy_96 (lv_at hl 4 rfl) ?_
  obtain ⟨o1, hco1, h⟩ := q_bind h
  refine q_calli hw (va_runV (As := []) (rest := []) C0 (kX6_isRow hj6 hco1 _) (cwV 0 hts gX8_copy_X6_isRow rfl rfl rfl eX6_isRow ⟨(Nat.le_of_ble_eq_true rfl), (Nat.le_of_ble_eq_true rfl)⟩) ⟨q_blind, q_recv hw (xN_15 hj6) (xE_15 hj6) rfl, q_pre hw⟩ rfl rfl hl.1 rfl (lv_room (Nat.le_of_ble_eq_true rfl)) dX8_copy_98 ⟨Nat.zero_le _, Nat.zero_le _⟩) (fun H locs hw => ?_)
  refine lv_if_eq (tgt := 112) hx hb dX8_copy_101 (by decide) (fun c2 => ?_) (fun c2 => ?_)
  · replace h := q_t h c2
    refine lv_aload_n hx hb dX8_copy_112 rfl (lv_at hl 0 rfl) ?_
    refine lv_bipush (v := (-4 : Int32)) hx hb dX8_copy_113 (by decide) ?_
    obtain ⟨o3, hco3, h⟩ := q_bind h
    refine q_calli hw (va_runV (As := [.int (-4 : Int32)]) (rest := []) C0 (kX8_refuse hco3 _) (cwV 1 hts gX8_copy_X8_refuse rfl rfl rfl eX8_refuse ⟨(Nat.le_of_ble_eq_true rfl), (Nat.le_of_ble_eq_true rfl)⟩) ⟨q_blind, q_recv hw (xN_0 xF_0) (xE_0 xF_0) rfl, q_pre hw⟩ rfl rfl hl.1 rfl (lv_room (Nat.le_of_ble_eq_true rfl)) dX8_copy_115 ⟨Nat.zero_le _, Nat.zero_le _⟩) (fun H locs hw => ?_)
    exact q_iret h C0 hr hlk hw dX8_copy_118
  · replace h := q_f h c2
    refine lv_aload hx hb dX8_copy_104 (lv_at hl 5 rfl) ?_
    obtain ⟨o4, hco4, h⟩ := q_bind h
    refine q_calli hw (va_runV (As := []) (rest := []) C0 (kX6_isRow hj7 hco4 _) (cwV 0 hts gX8_copy_X6_isRow rfl rfl rfl eX6_isRow ⟨(Nat.le_of_ble_eq_true rfl), (Nat.le_of_ble_eq_true rfl)⟩) ⟨q_blind, q_recv hw (xN_15 hj7) (xE_15 hj7) rfl, q_pre hw⟩ rfl rfl hl.1 rfl (lv_room (Nat.le_of_ble_eq_true rfl)) dX8_copy_106 ⟨Nat.zero_le _, Nat.zero_le _⟩) (fun H locs hw => ?_)
    refine lv_if_ne (tgt := 119) hx hb dX8_copy_109 (by decide) (fun c5 => ?_) (fun c5 => ?_)
    · replace h := q_f h c5
      refine lv_aload hx hb dX8_copy_119 (lv_at hl 4 rfl) ?_
      refine gt_X6_1 C0 hw hj6 iX8_copy_X6 (by decide +kernel) dX8_copy_121 ?_
      refine lv_iload_n hx hb dX8_copy_124 rfl (lv_at hl 1 rfl) ?_
      refine lv_iload hx hb dX8_copy_125 (lv_at hl 3 rfl) ?_
      obtain ⟨o6, hco6, h⟩ := q_bind h
      refine q_calli hw (va_runV (As := [.int p3, .int p5]) (rest := []) C0 (kX5_hasRun (xD_15_1 hj6) hco6 _) (cwV 2 hts gX8_copy_X5_hasRun rfl rfl rfl eX5_hasRun ⟨(Nat.le_of_ble_eq_true rfl), (Nat.le_of_ble_eq_true rfl)⟩) ⟨q_blind, q_recv hw (xN_16 (xD_15_1 hj6)) (xE_16 (xD_15_1 hj6)) rfl, q_pre hw⟩ rfl rfl hl.1 rfl (lv_room (Nat.le_of_ble_eq_true rfl)) dX8_copy_127 ⟨Nat.zero_le _, Nat.zero_le _⟩) (fun H locs hw => ?_)
      refine lv_if_eq (tgt := 148) hx hb dX8_copy_130 (by decide) (fun c7 => ?_) (fun c7 => ?_)
      · replace h := q_t h c7
        refine lv_aload_n hx hb dX8_copy_148 rfl (lv_at hl 0 rfl) ?_
        refine lv_bipush (v := (-2 : Int32)) hx hb dX8_copy_149 (by decide) ?_
        obtain ⟨o8, hco8, h⟩ := q_bind h
        refine q_calli hw (va_runV (As := [.int (-2 : Int32)]) (rest := []) C0 (kX8_refuse hco8 _) (cwV 1 hts gX8_copy_X8_refuse rfl rfl rfl eX8_refuse ⟨(Nat.le_of_ble_eq_true rfl), (Nat.le_of_ble_eq_true rfl)⟩) ⟨q_blind, q_recv hw (xN_0 xF_0) (xE_0 xF_0) rfl, q_pre hw⟩ rfl rfl hl.1 rfl (lv_room (Nat.le_of_ble_eq_true rfl)) dX8_copy_151 ⟨Nat.zero_le _, Nat.zero_le _⟩) (fun H locs hw => ?_)
        exact q_iret h C0 hr hlk hw dX8_copy_154
      · replace h := q_f h c7
        refine lv_aload hx hb dX8_copy_133 (lv_at hl 5 rfl) ?_
        refine gt_X6_1 C0 hw hj7 iX8_copy_X6 (by decide +kernel) dX8_copy_135 ?_
        refine lv_iload hx hb dX8_copy_138 (lv_at hl 2 rfl) ?_
        refine lv_iload hx hb dX8_copy_140 (lv_at hl 3 rfl) ?_
        obtain ⟨o9, hco9, h⟩ := q_bind h
        refine q_calli hw (va_runV (As := [.int p4, .int p5]) (rest := []) C0 (kX5_hasRun (xD_15_1 hj7) hco9 _) (cwV 2 hts gX8_copy_X5_hasRun rfl rfl rfl eX5_hasRun ⟨(Nat.le_of_ble_eq_true rfl), (Nat.le_of_ble_eq_true rfl)⟩) ⟨q_blind, q_recv hw (xN_16 (xD_15_1 hj7)) (xE_16 (xD_15_1 hj7)) rfl, q_pre hw⟩ rfl rfl hl.1 rfl (lv_room (Nat.le_of_ble_eq_true rfl)) dX8_copy_142 ⟨Nat.zero_le _, Nat.zero_le _⟩) (fun H locs hw => ?_)
        refine lv_if_ne (tgt := 155) hx hb dX8_copy_145 (by decide) (fun c10 => ?_) (fun c10 => ?_)
        · replace h := q_f h c10
          refine lv_aload hx hb dX8_copy_155 (lv_at hl 4 rfl) ?_
          refine gt_X6_1 C0 hw hj6 iX8_copy_X6 (by decide +kernel) dX8_copy_157 ?_
          refine gt_X5_2 C0 hw (xD_15_1 hj6) iX8_copy_X5 (by decide +kernel) dX8_copy_160 ?_
          refine lv_iload_n hx hb dX8_copy_163 rfl (lv_at hl 1 rfl) ?_
          refine lv_aload hx hb dX8_copy_164 (lv_at hl 5 rfl) ?_
          refine gt_X6_1 C0 hw hj7 iX8_copy_X6 (by decide +kernel) dX8_copy_166 ?_
          refine gt_X5_2 C0 hw (xD_15_1 hj7) iX8_copy_X5 (by decide +kernel) dX8_copy_169 ?_
          refine lv_iload hx hb dX8_copy_172 (lv_at hl 2 rfl) ?_
          refine lv_iload hx hb dX8_copy_174 (lv_at hl 3 rfl) ?_
          obtain ⟨b11, h⟩ := q_if h
          refine q_copyl (t0 := 1) C0 hl.1 hw (hts (.methodLink RX8 110 arraycopyName) (by decide +kernel)) (hts (.native arraycopyName) (by decide +kernel)) (hts (.static arraycopyName) (by decide +kernel)) (hts (.initialized "java/lang/System") (by decide +kernel)) (xN_17 (xD_16_1 (xD_15_1 hj6))) (xE_17 (xD_16_1 (xD_15_1 hj6))) (xN_17 (xD_16_1 (xD_15_1 hj7))) (xE_17 (xD_16_1 (xD_15_1 hj7))) rfl b11.1 b11.2.1 b11.2.2.1 b11.2.2.2.1 b11.2.2.2.2 (Nat.le_of_ble_eq_true rfl) (Nat.le_of_ble_eq_true rfl) dX8_copy_176 (fun σ12 H locs e_σ12 hw => ?_)
          replace h := q_let_at e_σ12 h
          refine lv_iload hx hb dX8_copy_179 (lv_at hl 3 rfl) ?_
          exact q_iret h C0 hr hlk hw dX8_copy_181
        · replace h := q_t h c10
          refine lv_aload_n hx hb dX8_copy_148 rfl (lv_at hl 0 rfl) ?_
          refine lv_bipush (v := (-2 : Int32)) hx hb dX8_copy_149 (by decide) ?_
          obtain ⟨o13, hco13, h⟩ := q_bind h
          refine q_calli hw (va_runV (As := [.int (-2 : Int32)]) (rest := []) C0 (kX8_refuse hco13 _) (cwV 1 hts gX8_copy_X8_refuse rfl rfl rfl eX8_refuse ⟨(Nat.le_of_ble_eq_true rfl), (Nat.le_of_ble_eq_true rfl)⟩) ⟨q_blind, q_recv hw (xN_0 xF_0) (xE_0 xF_0) rfl, q_pre hw⟩ rfl rfl hl.1 rfl (lv_room (Nat.le_of_ble_eq_true rfl)) dX8_copy_151 ⟨Nat.zero_le _, Nat.zero_le _⟩) (fun H locs hw => ?_)
          exact q_iret h C0 hr hlk hw dX8_copy_154
    · replace h := q_t h c5
      refine lv_aload_n hx hb dX8_copy_112 rfl (lv_at hl 0 rfl) ?_
      refine lv_bipush (v := (-4 : Int32)) hx hb dX8_copy_113 (by decide) ?_
      obtain ⟨o14, hco14, h⟩ := q_bind h
      refine q_calli hw (va_runV (As := [.int (-4 : Int32)]) (rest := []) C0 (kX8_refuse hco14 _) (cwV 1 hts gX8_copy_X8_refuse rfl rfl rfl eX8_refuse ⟨(Nat.le_of_ble_eq_true rfl), (Nat.le_of_ble_eq_true rfl)⟩) ⟨q_blind, q_recv hw (xN_0 xF_0) (xE_0 xF_0) rfl, q_pre hw⟩ rfl rfl hl.1 rfl (lv_room (Nat.le_of_ble_eq_true rfl)) dX8_copy_115 ⟨Nat.zero_le _, Nat.zero_le _⟩) (fun H locs hw => ?_)
      exact q_iret h C0 hr hlk hw dX8_copy_118
set_option maxHeartbeats 4000000 in
set_option maxRecDepth 100000 in
theorem kX8_copy {p1 : Int32} {p2 : Int32} {p3 : Int32} {p4 : Int32} {p5 : Int32}  {σ : q_M} {out : Int32 × q_M} (h : fX8_copy p1 p2 p3 p4 p5 σ = some out) : q_Mi l (gX D cI cJ cS ad adK adV) yX8_copy wsX8_copy { frames := 1, cells := 0, slots := 0, locals := 26 } [.ref (ad 0), .int p1, .int p2, .int p3, .int p4, .int p5] σ out := by
  refine q_Mi_of (cc := cX8_copy) (maxL := 8) (ret := (some .int)) (by decide) rfl (Nat.le_of_ble_eq_true rfl) ?_
  intro p e s m below meth c ls C0 hr hlk hl hw
  obtain ⟨hx, hb, hml, hown, hts⟩ := id C0
  replace hl : lv_has ls 8 [(0, .ref (ad 0)), (1, .int p1), (2, .int p2), (3, .int p3), (4, .int p4), (5, .int p5)] := hl
  unfold fX8_copy at h
  refine lv_iload_n hx hb dX8_copy_0 rfl (lv_at hl 1 rfl) ?_
  obtain ⟨o1, hco1, h⟩ := q_bind h
  refine q_calli hw (va_runS (As := [.int p1]) (rest := []) C0 (kX8_isShelf hco1 _) (va_cwS 1 hts gX8_copy_X8_isShelf rfl rfl rfl eX8_isShelf ⟨(Nat.le_of_ble_eq_true rfl), (Nat.le_of_ble_eq_true rfl)⟩) ⟨q_blind, q_pre hw⟩ rfl rfl hl.1 rfl (lv_room (Nat.le_of_ble_eq_true rfl)) dX8_copy_1 ⟨Nat.zero_le _, Nat.zero_le _⟩) (fun H locs hw => ?_)
  refine lv_if_eq (tgt := 14) hx hb dX8_copy_4 (by decide) (fun c2 => ?_) (fun c2 => ?_)
  · replace h := q_t h c2
    refine lv_aload_n hx hb dX8_copy_14 rfl (lv_at hl 0 rfl) ?_
    refine lv_bipush (v := (-2 : Int32)) hx hb dX8_copy_15 (by decide) ?_
    obtain ⟨o3, hco3, h⟩ := q_bind h
    refine q_calli hw (va_runV (As := [.int (-2 : Int32)]) (rest := []) C0 (kX8_refuse hco3 _) (cwV 1 hts gX8_copy_X8_refuse rfl rfl rfl eX8_refuse ⟨(Nat.le_of_ble_eq_true rfl), (Nat.le_of_ble_eq_true rfl)⟩) ⟨q_blind, q_recv hw (xN_0 xF_0) (xE_0 xF_0) rfl, q_pre hw⟩ rfl rfl hl.1 rfl (lv_room (Nat.le_of_ble_eq_true rfl)) dX8_copy_17 ⟨Nat.zero_le _, Nat.zero_le _⟩) (fun H locs hw => ?_)
    exact q_iret h C0 hr hlk hw dX8_copy_20
  · replace h := q_f h c2
    refine lv_iload_n hx hb dX8_copy_7 rfl (lv_at hl 2 rfl) ?_
    obtain ⟨o4, hco4, h⟩ := q_bind h
    refine q_calli hw (va_runS (As := [.int p2]) (rest := []) C0 (kX8_isShelf hco4 _) (va_cwS 1 hts gX8_copy_X8_isShelf rfl rfl rfl eX8_isShelf ⟨(Nat.le_of_ble_eq_true rfl), (Nat.le_of_ble_eq_true rfl)⟩) ⟨q_blind, q_pre hw⟩ rfl rfl hl.1 rfl (lv_room (Nat.le_of_ble_eq_true rfl)) dX8_copy_8 ⟨Nat.zero_le _, Nat.zero_le _⟩) (fun H locs hw => ?_)
    refine lv_if_ne (tgt := 21) hx hb dX8_copy_11 (by decide) (fun c5 => ?_) (fun c5 => ?_)
    · replace h := q_f h c5
      refine lv_aload_n hx hb dX8_copy_21 rfl (lv_at hl 0 rfl) ?_
      refine gt_X8_4 C0 hw xF_0 iX8_copy_X8 (by decide +kernel) dX8_copy_22 ?_
      refine lv_iload_n hx hb dX8_copy_25 rfl (lv_at hl 1 rfl) ?_
      obtain ⟨b6, h⟩ := q_if h
      refine q_aald (t0 := 2) C0 hw (xN_8 xF_22) (xE_8 xF_22) rfl b6 rfl dX8_copy_26 ?_
      refine lv_astore (lv' := [(6, .ref (ad (31 + 4 * p1.toNatClampNeg))), (0, .ref (ad 0)), (1, .int p1), (2, .int p2), (3, .int p3), (4, .int p4), (5, .int p5)]) hx hb dX8_copy_27 hl (by decide) rfl (fun ls hl => ?_)
      refine lv_aload_n hx hb dX8_copy_29 rfl (lv_at hl 1 rfl) ?_
      refine gt_X8_4 C0 hw xF_0 iX8_copy_X8 (by decide +kernel) dX8_copy_30 ?_
      refine lv_iload_n hx hb dX8_copy_33 rfl (lv_at hl 3 rfl) ?_
      obtain ⟨b7, h⟩ := q_if h
      refine q_aald (t0 := 2) C0 hw (xN_8 xF_22) (xE_8 xF_22) rfl b7 rfl dX8_copy_34 ?_
      refine lv_astore (lv' := [(7, .ref (ad (31 + 4 * p2.toNatClampNeg))), (6, .ref (ad (31 + 4 * p1.toNatClampNeg))), (0, .ref (ad 0)), (1, .int p1), (2, .int p2), (3, .int p3), (4, .int p4), (5, .int p5)]) hx hb dX8_copy_35 hl (by decide) rfl (fun ls hl => ?_)
      refine lv_aload hx hb dX8_copy_37 (lv_at hl 1 rfl) ?_
      obtain ⟨o8, hco8, h⟩ := q_bind h
      refine q_calli hw (va_runV (As := []) (rest := []) C0 (kX6_isMove (xSh b6) hco8 _) (cwV 0 hts gX8_copy_X6_isMove rfl rfl rfl eX6_isMove ⟨(Nat.le_of_ble_eq_true rfl), (Nat.le_of_ble_eq_true rfl)⟩) ⟨q_blind, q_recv hw (xN_15 (xSh b6)) (xE_15 (xSh b6)) rfl, q_pre hw⟩ rfl rfl hl.1 rfl (lv_room (Nat.le_of_ble_eq_true rfl)) dX8_copy_39 ⟨Nat.zero_le _, Nat.zero_le _⟩) (fun H locs hw => ?_)
      refine lv_if_ne (tgt := 53) hx hb dX8_copy_42 (by decide) (fun c9 => ?_) (fun c9 => ?_)
      · replace h := q_f h c9
        refine lv_aload_n hx hb dX8_copy_53 rfl (lv_at hl 2 rfl) ?_
        refine lv_bipush (v := (-3 : Int32)) hx hb dX8_copy_54 (by decide) ?_
        obtain ⟨o10, hco10, h⟩ := q_bind h
        refine q_calli hw (va_runV (As := [.int (-3 : Int32)]) (rest := []) C0 (kX8_refuse hco10 _) (cwV 1 hts gX8_copy_X8_refuse rfl rfl rfl eX8_refuse ⟨(Nat.le_of_ble_eq_true rfl), (Nat.le_of_ble_eq_true rfl)⟩) ⟨q_blind, q_recv hw (xN_0 xF_0) (xE_0 xF_0) rfl, q_pre hw⟩ rfl rfl hl.1 rfl (lv_room (Nat.le_of_ble_eq_true rfl)) dX8_copy_56 ⟨Nat.zero_le _, Nat.zero_le _⟩) (fun H locs hw => ?_)
        exact q_iret h C0 hr hlk hw dX8_copy_59
      · replace h := q_t h c9
        refine lv_aload hx hb dX8_copy_45 (lv_at hl 0 rfl) ?_
        obtain ⟨o11, hco11, h⟩ := q_bind h
        refine q_calli hw (va_runV (As := []) (rest := []) C0 (kX6_isMove (xSh b7) hco11 _) (cwV 0 hts gX8_copy_X6_isMove rfl rfl rfl eX6_isMove ⟨(Nat.le_of_ble_eq_true rfl), (Nat.le_of_ble_eq_true rfl)⟩) ⟨q_blind, q_recv hw (xN_15 (xSh b7)) (xE_15 (xSh b7)) rfl, q_pre hw⟩ rfl rfl hl.1 rfl (lv_room (Nat.le_of_ble_eq_true rfl)) dX8_copy_47 ⟨Nat.zero_le _, Nat.zero_le _⟩) (fun H locs hw => ?_)
        refine lv_if_eq (tgt := 60) hx hb dX8_copy_50 (by decide) (fun c12 => ?_) (fun c12 => ?_)
        · replace h := q_t h c12
          refine lv_aload hx hb dX8_copy_60 (lv_at hl 1 rfl) ?_
          obtain ⟨o13, hco13, h⟩ := q_bind h
          refine q_calli hw (va_runV (As := []) (rest := []) C0 (kX6_isRow (xSh b6) hco13 _) (cwV 0 hts gX8_copy_X6_isRow rfl rfl rfl eX6_isRow ⟨(Nat.le_of_ble_eq_true rfl), (Nat.le_of_ble_eq_true rfl)⟩) ⟨q_blind, q_recv hw (xN_15 (xSh b6)) (xE_15 (xSh b6)) rfl, q_pre hw⟩ rfl rfl hl.1 rfl (lv_room (Nat.le_of_ble_eq_true rfl)) dX8_copy_62 ⟨Nat.zero_le _, Nat.zero_le _⟩) (fun H locs hw => ?_)
          refine lv_if_eq (tgt := 96) hx hb dX8_copy_65 (by decide) (fun c14 => ?_) (fun c14 => ?_)
          · replace h := q_t h c14
            exact tX8_copy_c96 C0 hr hlk (31 + 4 * p1.toNatClampNeg) (31 + 4 * p2.toNatClampNeg) o13.2 _ _ _ (xSh b6) (xSh b7) hw (lv_sub hl [2, 5, 6, 7, 1, 0] rfl) h
          · replace h := q_f h c14
            refine lv_aload hx hb dX8_copy_68 (lv_at hl 0 rfl) ?_
            obtain ⟨o15, hco15, h⟩ := q_bind h
            refine q_calli hw (va_runV (As := []) (rest := []) C0 (kX6_isRow (xSh b7) hco15 _) (cwV 0 hts gX8_copy_X6_isRow rfl rfl rfl eX6_isRow ⟨(Nat.le_of_ble_eq_true rfl), (Nat.le_of_ble_eq_true rfl)⟩) ⟨q_blind, q_recv hw (xN_15 (xSh b7)) (xE_15 (xSh b7)) rfl, q_pre hw⟩ rfl rfl hl.1 rfl (lv_room (Nat.le_of_ble_eq_true rfl)) dX8_copy_70 ⟨Nat.zero_le _, Nat.zero_le _⟩) (fun H locs hw => ?_)
            refine lv_if_eq (tgt := 96) hx hb dX8_copy_73 (by decide) (fun c16 => ?_) (fun c16 => ?_)
            · replace h := q_t h c16
              exact tX8_copy_c96 C0 hr hlk (31 + 4 * p1.toNatClampNeg) (31 + 4 * p2.toNatClampNeg) o15.2 _ _ _ (xSh b6) (xSh b7) hw (lv_sub hl [2, 5, 6, 7, 1, 0] rfl) h
            · replace h := q_f h c16
              refine lv_aload hx hb dX8_copy_76 (lv_at hl 1 rfl) ?_
              refine gt_X6_0 C0 hw (xSh b6) iX8_copy_X6 (by decide +kernel) dX8_copy_78 ?_
              refine lv_aload hx hb dX8_copy_81 (lv_at hl 0 rfl) ?_
              refine gt_X6_0 C0 hw (xSh b7) iX8_copy_X6 (by decide +kernel) dX8_copy_83 ?_
              refine lv_icmp_eq (tgt := 96) hx hb dX8_copy_86 (by decide) (fun c17 => ?_) (fun c17 => ?_)
              · replace h := q_t h c17
                exact tX8_copy_c96 C0 hr hlk (31 + 4 * p1.toNatClampNeg) (31 + 4 * p2.toNatClampNeg) o15.2 _ _ _ (xSh b6) (xSh b7) hw (lv_sub hl [2, 5, 6, 7, 1, 0] rfl) h
              · replace h := q_f h c17
                refine lv_aload_n hx hb dX8_copy_89 rfl (lv_at hl 2 rfl) ?_
                refine lv_bipush (v := (-3 : Int32)) hx hb dX8_copy_90 (by decide) ?_
                obtain ⟨o18, hco18, h⟩ := q_bind h
                refine q_calli hw (va_runV (As := [.int (-3 : Int32)]) (rest := []) C0 (kX8_refuse hco18 _) (cwV 1 hts gX8_copy_X8_refuse rfl rfl rfl eX8_refuse ⟨(Nat.le_of_ble_eq_true rfl), (Nat.le_of_ble_eq_true rfl)⟩) ⟨q_blind, q_recv hw (xN_0 xF_0) (xE_0 xF_0) rfl, q_pre hw⟩ rfl rfl hl.1 rfl (lv_room (Nat.le_of_ble_eq_true rfl)) dX8_copy_92 ⟨Nat.zero_le _, Nat.zero_le _⟩) (fun H locs hw => ?_)
                exact q_iret h C0 hr hlk hw dX8_copy_95
        · replace h := q_f h c12
          refine lv_aload_n hx hb dX8_copy_53 rfl (lv_at hl 2 rfl) ?_
          refine lv_bipush (v := (-3 : Int32)) hx hb dX8_copy_54 (by decide) ?_
          obtain ⟨o19, hco19, h⟩ := q_bind h
          refine q_calli hw (va_runV (As := [.int (-3 : Int32)]) (rest := []) C0 (kX8_refuse hco19 _) (cwV 1 hts gX8_copy_X8_refuse rfl rfl rfl eX8_refuse ⟨(Nat.le_of_ble_eq_true rfl), (Nat.le_of_ble_eq_true rfl)⟩) ⟨q_blind, q_recv hw (xN_0 xF_0) (xE_0 xF_0) rfl, q_pre hw⟩ rfl rfl hl.1 rfl (lv_room (Nat.le_of_ble_eq_true rfl)) dX8_copy_56 ⟨Nat.zero_le _, Nat.zero_le _⟩) (fun H locs hw => ?_)
          exact q_iret h C0 hr hlk hw dX8_copy_59
    · replace h := q_t h c5
      refine lv_aload_n hx hb dX8_copy_14 rfl (lv_at hl 0 rfl) ?_
      refine lv_bipush (v := (-2 : Int32)) hx hb dX8_copy_15 (by decide) ?_
      obtain ⟨o20, hco20, h⟩ := q_bind h
      refine q_calli hw (va_runV (As := [.int (-2 : Int32)]) (rest := []) C0 (kX8_refuse hco20 _) (cwV 1 hts gX8_copy_X8_refuse rfl rfl rfl eX8_refuse ⟨(Nat.le_of_ble_eq_true rfl), (Nat.le_of_ble_eq_true rfl)⟩) ⟨q_blind, q_recv hw (xN_0 xF_0) (xE_0 xF_0) rfl, q_pre hw⟩ rfl rfl hl.1 rfl (lv_room (Nat.le_of_ble_eq_true rfl)) dX8_copy_17 ⟨Nat.zero_le _, Nat.zero_le _⟩) (fun H locs hw => ?_)
      exact q_iret h C0 hr hlk hw dX8_copy_20
-- X8_element element(II)J
theorem iX8_element_X5 : ∀ w ∈ wsX50, w ∈ wsX8_element := by decide +kernel
theorem iX8_element_X6 : ∀ w ∈ wsX60, w ∈ wsX8_element := by decide +kernel
theorem iX8_element_X8 : ∀ w ∈ wsX80, w ∈ wsX8_element := by decide +kernel
set_option maxHeartbeats 4000000 in
set_option maxRecDepth 100000 in
theorem kX8_element {p1 : Int32} {p2 : Int32}  {σ : q_M} {out : Int64 × q_M} (h : fX8_element p1 p2 σ = some out) : q_Ml l (gX D cI cJ cS ad adK adV) yX8_element wsX8_element { frames := 1, cells := 0, slots := 0, locals := 20 } [.ref (ad 0), .int p1, .int p2] σ out := by
  refine q_Ml_of (cc := cX8_element) (maxL := 4) (ret := (some .long)) (by decide) rfl (Nat.le_of_ble_eq_true rfl) ?_
  intro p e s m below meth c ls C0 hr hlk hl hw
  obtain ⟨hx, hb, hml, hown, hts⟩ := id C0
  replace hl : lv_has ls 4 [(0, .ref (ad 0)), (1, .int p1), (2, .int p2)] := hl
  unfold fX8_element at h
  refine lv_iload_n hx hb dX8_element_0 rfl (lv_at hl 1 rfl) ?_
  obtain ⟨o1, hco1, h⟩ := q_bind h
  refine q_calli hw (va_runS (As := [.int p1]) (rest := []) C0 (kX8_isShelf hco1 _) (va_cwS 1 hts gX8_element_X8_isShelf rfl rfl rfl eX8_isShelf ⟨(Nat.le_of_ble_eq_true rfl), (Nat.le_of_ble_eq_true rfl)⟩) ⟨q_blind, q_pre hw⟩ rfl rfl hl.1 rfl (lv_room (Nat.le_of_ble_eq_true rfl)) dX8_element_1 ⟨Nat.zero_le _, Nat.zero_le _⟩) (fun H locs hw => ?_)
  refine lv_if_eq (tgt := 19) hx hb dX8_element_4 (by decide) (fun c2 => ?_) (fun c2 => ?_)
  · replace h := q_t h c2
    refine lv_lconst (v := (0 : Int64)) hx hb dX8_element_19 (by decide) ?_
    exact q_lret h C0 hr hlk hw dX8_element_20
  · replace h := q_f h c2
    refine lv_aload_n hx hb dX8_element_7 rfl (lv_at hl 0 rfl) ?_
    refine gt_X8_4 C0 hw xF_0 iX8_element_X8 (by decide +kernel) dX8_element_8 ?_
    refine lv_iload_n hx hb dX8_element_11 rfl (lv_at hl 1 rfl) ?_
    obtain ⟨b3, h⟩ := q_if h
    refine q_aald (t0 := 2) C0 hw (xN_8 xF_22) (xE_8 xF_22) rfl b3 rfl dX8_element_12 ?_
    obtain ⟨o4, hco4, h⟩ := q_bind h
    refine q_calli hw (va_runV (As := []) (rest := []) C0 (kX6_isRow (xSh b3) hco4 _) (cwV 0 hts gX8_element_X6_isRow rfl rfl rfl eX6_isRow ⟨(Nat.le_of_ble_eq_true rfl), (Nat.le_of_ble_eq_true rfl)⟩) ⟨q_blind, q_recv hw (xN_15 (xSh b3)) (xE_15 (xSh b3)) rfl, q_pre hw⟩ rfl rfl hl.1 rfl (lv_room (Nat.le_of_ble_eq_true rfl)) dX8_element_13 ⟨Nat.zero_le _, Nat.zero_le _⟩) (fun H locs hw => ?_)
    refine lv_if_ne (tgt := 21) hx hb dX8_element_16 (by decide) (fun c5 => ?_) (fun c5 => ?_)
    · replace h := q_f h c5
      refine lv_aload_n hx hb dX8_element_21 rfl (lv_at hl 0 rfl) ?_
      refine gt_X8_4 C0 hw xF_0 iX8_element_X8 (by decide +kernel) dX8_element_22 ?_
      refine lv_iload_n hx hb dX8_element_25 rfl (lv_at hl 1 rfl) ?_
      obtain ⟨b6, h⟩ := q_if h
      refine q_aald (t0 := 2) C0 hw (xN_8 xF_22) (xE_8 xF_22) rfl b6 rfl dX8_element_26 ?_
      refine gt_X6_1 C0 hw (xSh b6) iX8_element_X6 (by decide +kernel) dX8_element_27 ?_
      refine lv_astore_n (lv' := [(3, .ref (ad ((31 + 4 * p1.toNatClampNeg) + 1))), (0, .ref (ad 0)), (1, .int p1), (2, .int p2)]) hx hb dX8_element_30 rfl hl (by decide) rfl (fun ls hl => ?_)
      refine lv_iload_n hx hb dX8_element_31 rfl (lv_at hl 3 rfl) ?_
      refine lv_if_lt (tgt := 52) hx hb dX8_element_32 (by decide) (fun c7 => ?_) (fun c7 => ?_)
      · replace h := q_t h c7
        refine lv_lconst (v := (0 : Int64)) hx hb dX8_element_52 (by decide) ?_
        exact q_lret h C0 hr hlk hw dX8_element_53
      · replace h := q_f h c7
        refine lv_iload_n hx hb dX8_element_35 rfl (lv_at hl 3 rfl) ?_
        refine lv_aload_n hx hb dX8_element_36 rfl (lv_at hl 0 rfl) ?_
        refine gt_X5_1 C0 hw (xD_15_1 (xSh b6)) iX8_element_X5 (by decide +kernel) dX8_element_37 ?_
        refine lv_icmp_ge (tgt := 52) hx hb dX8_element_40 (by decide) (fun c8 => ?_) (fun c8 => ?_)
        · replace h := q_t h c8
          refine lv_lconst (v := (0 : Int64)) hx hb dX8_element_52 (by decide) ?_
          exact q_lret h C0 hr hlk hw dX8_element_53
        · replace h := q_f h c8
          refine lv_aload_n hx hb dX8_element_43 rfl (lv_at hl 0 rfl) ?_
          refine gt_X5_2 C0 hw (xD_15_1 (xSh b6)) iX8_element_X5 (by decide +kernel) dX8_element_44 ?_
          refine lv_iload_n hx hb dX8_element_47 rfl (lv_at hl 3 rfl) ?_
          obtain ⟨b9, h⟩ := q_if h
          refine q_lald (t0 := 1) C0 hw (xN_17 (xD_16_1 (xD_15_1 (xSh b6)))) (xE_17 (xD_16_1 (xD_15_1 (xSh b6)))) rfl b9 dX8_element_48 ?_
          refine lv_goto (tgt := 53) hx hb dX8_element_49 (by decide) ?_
          exact q_lret h C0 hr hlk hw dX8_element_53
    · replace h := q_t h c5
      refine lv_lconst (v := (0 : Int64)) hx hb dX8_element_19 (by decide) ?_
      exact q_lret h C0 hr hlk hw dX8_element_20
-- X8_holds holds(I)I
theorem iX8_holds_X6 : ∀ w ∈ wsX60, w ∈ wsX8_holds := by decide +kernel
theorem iX8_holds_X8 : ∀ w ∈ wsX80, w ∈ wsX8_holds := by decide +kernel
set_option maxHeartbeats 4000000 in
set_option maxRecDepth 100000 in
theorem kX8_holds {p1 : Int32}  {σ : q_M} {out : Int32 × q_M} (h : fX8_holds p1 σ = some out) : q_Mi l (gX D cI cJ cS ad adK adV) yX8_holds wsX8_holds { frames := 1, cells := 0, slots := 0, locals := 20 } [.ref (ad 0), .int p1] σ out := by
  refine q_Mi_of (cc := cX8_holds) (maxL := 2) (ret := (some .int)) (by decide) rfl (Nat.le_of_ble_eq_true rfl) ?_
  intro p e s m below meth c ls C0 hr hlk hl hw
  obtain ⟨hx, hb, hml, hown, hts⟩ := id C0
  replace hl : lv_has ls 2 [(0, .ref (ad 0)), (1, .int p1)] := hl
  unfold fX8_holds at h
  refine lv_iload_n hx hb dX8_holds_0 rfl (lv_at hl 1 rfl) ?_
  obtain ⟨o1, hco1, h⟩ := q_bind h
  refine q_calli hw (va_runS (As := [.int p1]) (rest := []) C0 (kX8_isShelf hco1 _) (va_cwS 1 hts gX8_holds_X8_isShelf rfl rfl rfl eX8_isShelf ⟨(Nat.le_of_ble_eq_true rfl), (Nat.le_of_ble_eq_true rfl)⟩) ⟨q_blind, q_pre hw⟩ rfl rfl hl.1 rfl (lv_room (Nat.le_of_ble_eq_true rfl)) dX8_holds_1 ⟨Nat.zero_le _, Nat.zero_le _⟩) (fun H locs hw => ?_)
  refine lv_if_eq (tgt := 19) hx hb dX8_holds_4 (by decide) (fun c2 => ?_) (fun c2 => ?_)
  · replace h := q_t h c2
    refine lv_iconst (v := (-1 : Int32)) hx hb dX8_holds_19 (by decide) ?_
    exact q_iret h C0 hr hlk hw dX8_holds_20
  · replace h := q_f h c2
    refine lv_aload_n hx hb dX8_holds_7 rfl (lv_at hl 0 rfl) ?_
    refine gt_X8_4 C0 hw xF_0 iX8_holds_X8 (by decide +kernel) dX8_holds_8 ?_
    refine lv_iload_n hx hb dX8_holds_11 rfl (lv_at hl 1 rfl) ?_
    obtain ⟨b3, h⟩ := q_if h
    refine q_aald (t0 := 2) C0 hw (xN_8 xF_22) (xE_8 xF_22) rfl b3 rfl dX8_holds_12 ?_
    refine gt_X6_0 C0 hw (xSh b3) iX8_holds_X6 (by decide +kernel) dX8_holds_13 ?_
    refine lv_goto (tgt := 20) hx hb dX8_holds_16 (by decide) ?_
    exact q_iret h C0 hr hlk hw dX8_holds_20
-- X8_isWay isWay(I)Z
set_option maxHeartbeats 4000000 in
set_option maxRecDepth 100000 in
theorem kX8_isWay {p0 : Int32}  {σ : q_M} {out : Int32 × q_M} (h : fX8_isWay p0 σ = some out) : q_Mi l (gX D cI cJ cS ad adK adV) yX8_isWay wsX8_isWay { frames := 0, cells := 0, slots := 0, locals := 0 } [.int p0] σ out := by
  refine q_Mi_of (cc := cX8_isWay) (maxL := 1) (ret := (some .boolean)) (by decide) rfl (Nat.le_of_ble_eq_true rfl) ?_
  intro p e s m below meth c ls C0 hr hlk hl hw
  obtain ⟨hx, hb, hml, hown, hts⟩ := id C0
  replace hl : lv_has ls 1 [(0, .int p0)] := hl
  unfold fX8_isWay at h
  refine lv_iload_n hx hb dX8_isWay_0 rfl (lv_at hl 0 rfl) ?_
  refine lv_if_lt (tgt := 14) hx hb dX8_isWay_1 (by decide) (fun c1 => ?_) (fun c1 => ?_)
  · replace h := q_t h c1
    refine lv_iconst (v := (0 : Int32)) hx hb dX8_isWay_14 (by decide) ?_
    exact q_zret h C0 hr rfl hlk hw dX8_isWay_15
  · replace h := q_f h c1
    refine lv_iload_n hx hb dX8_isWay_4 rfl (lv_at hl 0 rfl) ?_
    refine lv_bipush (v := (6 : Int32)) hx hb dX8_isWay_5 (by decide) ?_
    refine lv_icmp_ge (tgt := 14) hx hb dX8_isWay_7 (by decide) (fun c2 => ?_) (fun c2 => ?_)
    · replace h := q_t h c2
      refine lv_iconst (v := (0 : Int32)) hx hb dX8_isWay_14 (by decide) ?_
      exact q_zret h C0 hr rfl hlk hw dX8_isWay_15
    · replace h := q_f h c2
      refine lv_iconst (v := (1 : Int32)) hx hb dX8_isWay_10 (by decide) ?_
      refine lv_goto (tgt := 15) hx hb dX8_isWay_11 (by decide) ?_
      exact q_zret h C0 hr rfl hlk hw dX8_isWay_15
-- X8_move move(IIII)I
theorem iX8_move_X6 : ∀ w ∈ wsX60, w ∈ wsX8_move := by decide +kernel
theorem iX8_move_X8 : ∀ w ∈ wsX80, w ∈ wsX8_move := by decide +kernel
theorem eX3_become : yX3_become.cls = RX3 ∧ yX3_become.cls ≠ "java/lang/invoke/MethodHandle" ∧ yX3_become.cls ≠ "java/lang/invoke/VarHandle" ∧ (parseMethodDescriptor yX3_become.desc).map (fun d => d.parameters.length) = some 3 := by decide +kernel
theorem eX8_isWay : yX8_isWay.cls ≠ "java/lang/invoke/MethodHandle" ∧ yX8_isWay.cls ≠ "java/lang/invoke/VarHandle" ∧ (parseMethodDescriptor yX8_isWay.desc).map (fun d => d.parameters.length) = some 1 := by decide +kernel
set_option maxHeartbeats 4000000 in
set_option maxRecDepth 100000 in
theorem kX8_move {p1 : Int32} {p2 : Int32} {p3 : Int32} {p4 : Int32}  {σ : q_M} {out : Int32 × q_M} (h : fX8_move p1 p2 p3 p4 σ = some out) : q_Mi l (gX D cI cJ cS ad adK adV) yX8_move wsX8_move { frames := 1, cells := 0, slots := 0, locals := 23 } [.ref (ad 0), .int p1, .int p2, .int p3, .int p4] σ out := by
  refine q_Mi_of (cc := cX8_move) (maxL := 5) (ret := (some .int)) (by decide) rfl (Nat.le_of_ble_eq_true rfl) ?_
  intro p e s m below meth c ls C0 hr hlk hl hw
  obtain ⟨hx, hb, hml, hown, hts⟩ := id C0
  replace hl : lv_has ls 5 [(0, .ref (ad 0)), (1, .int p1), (2, .int p2), (3, .int p3), (4, .int p4)] := hl
  unfold fX8_move at h
  refine lv_iload_n hx hb dX8_move_0 rfl (lv_at hl 1 rfl) ?_
  obtain ⟨o1, hco1, h⟩ := q_bind h
  refine q_calli hw (va_runS (As := [.int p1]) (rest := []) C0 (kX8_isShelf hco1 _) (va_cwS 1 hts gX8_move_X8_isShelf rfl rfl rfl eX8_isShelf ⟨(Nat.le_of_ble_eq_true rfl), (Nat.le_of_ble_eq_true rfl)⟩) ⟨q_blind, q_pre hw⟩ rfl rfl hl.1 rfl (lv_room (Nat.le_of_ble_eq_true rfl)) dX8_move_1 ⟨Nat.zero_le _, Nat.zero_le _⟩) (fun H locs hw => ?_)
  refine lv_if_eq (tgt := 32) hx hb dX8_move_4 (by decide) (fun c2 => ?_) (fun c2 => ?_)
  · replace h := q_t h c2
    refine lv_aload_n hx hb dX8_move_32 rfl (lv_at hl 0 rfl) ?_
    refine lv_bipush (v := (-2 : Int32)) hx hb dX8_move_33 (by decide) ?_
    obtain ⟨o3, hco3, h⟩ := q_bind h
    refine q_calli hw (va_runV (As := [.int (-2 : Int32)]) (rest := []) C0 (kX8_refuse hco3 _) (cwV 1 hts gX8_move_X8_refuse rfl rfl rfl eX8_refuse ⟨(Nat.le_of_ble_eq_true rfl), (Nat.le_of_ble_eq_true rfl)⟩) ⟨q_blind, q_recv hw (xN_0 xF_0) (xE_0 xF_0) rfl, q_pre hw⟩ rfl rfl hl.1 rfl (lv_room (Nat.le_of_ble_eq_true rfl)) dX8_move_35 ⟨Nat.zero_le _, Nat.zero_le _⟩) (fun H locs hw => ?_)
    exact q_iret h C0 hr hlk hw dX8_move_38
  · replace h := q_f h c2
    refine lv_iload_n hx hb dX8_move_7 rfl (lv_at hl 2 rfl) ?_
    refine lv_iconst (v := (1 : Int32)) hx hb dX8_move_8 (by decide) ?_
    refine lv_icmp_lt (tgt := 32) hx hb dX8_move_9 (by decide) (fun c4 => ?_) (fun c4 => ?_)
    · replace h := q_t h c4
      refine lv_aload_n hx hb dX8_move_32 rfl (lv_at hl 0 rfl) ?_
      refine lv_bipush (v := (-2 : Int32)) hx hb dX8_move_33 (by decide) ?_
      obtain ⟨o5, hco5, h⟩ := q_bind h
      refine q_calli hw (va_runV (As := [.int (-2 : Int32)]) (rest := []) C0 (kX8_refuse hco5 _) (cwV 1 hts gX8_move_X8_refuse rfl rfl rfl eX8_refuse ⟨(Nat.le_of_ble_eq_true rfl), (Nat.le_of_ble_eq_true rfl)⟩) ⟨q_blind, q_recv hw (xN_0 xF_0) (xE_0 xF_0) rfl, q_pre hw⟩ rfl rfl hl.1 rfl (lv_room (Nat.le_of_ble_eq_true rfl)) dX8_move_35 ⟨Nat.zero_le _, Nat.zero_le _⟩) (fun H locs hw => ?_)
      exact q_iret h C0 hr hlk hw dX8_move_38
    · replace h := q_f h c4
      refine lv_iload_n hx hb dX8_move_12 rfl (lv_at hl 2 rfl) ?_
      refine lv_iconst (v := (5 : Int32)) hx hb dX8_move_13 (by decide) ?_
      refine lv_icmp_gt (tgt := 32) hx hb dX8_move_14 (by decide) (fun c6 => ?_) (fun c6 => ?_)
      · replace h := q_t h c6
        refine lv_aload_n hx hb dX8_move_32 rfl (lv_at hl 0 rfl) ?_
        refine lv_bipush (v := (-2 : Int32)) hx hb dX8_move_33 (by decide) ?_
        obtain ⟨o7, hco7, h⟩ := q_bind h
        refine q_calli hw (va_runV (As := [.int (-2 : Int32)]) (rest := []) C0 (kX8_refuse hco7 _) (cwV 1 hts gX8_move_X8_refuse rfl rfl rfl eX8_refuse ⟨(Nat.le_of_ble_eq_true rfl), (Nat.le_of_ble_eq_true rfl)⟩) ⟨q_blind, q_recv hw (xN_0 xF_0) (xE_0 xF_0) rfl, q_pre hw⟩ rfl rfl hl.1 rfl (lv_room (Nat.le_of_ble_eq_true rfl)) dX8_move_35 ⟨Nat.zero_le _, Nat.zero_le _⟩) (fun H locs hw => ?_)
        exact q_iret h C0 hr hlk hw dX8_move_38
      · replace h := q_f h c6
        refine lv_iload_n hx hb dX8_move_17 rfl (lv_at hl 3 rfl) ?_
        obtain ⟨o8, hco8, h⟩ := q_bind h
        refine q_calli hw (va_runS (As := [.int p3]) (rest := []) C0 (kX8_isWay hco8 _) (va_cwS 1 hts gX8_move_X8_isWay rfl rfl rfl eX8_isWay ⟨(Nat.le_of_ble_eq_true rfl), (Nat.le_of_ble_eq_true rfl)⟩) ⟨q_blind, q_pre hw⟩ rfl rfl hl.1 rfl (lv_room (Nat.le_of_ble_eq_true rfl)) dX8_move_18 ⟨Nat.zero_le _, Nat.zero_le _⟩) (fun H locs hw => ?_)
        refine lv_if_eq (tgt := 32) hx hb dX8_move_21 (by decide) (fun c9 => ?_) (fun c9 => ?_)
        · replace h := q_t h c9
          refine lv_aload_n hx hb dX8_move_32 rfl (lv_at hl 0 rfl) ?_
          refine lv_bipush (v := (-2 : Int32)) hx hb dX8_move_33 (by decide) ?_
          obtain ⟨o10, hco10, h⟩ := q_bind h
          refine q_calli hw (va_runV (As := [.int (-2 : Int32)]) (rest := []) C0 (kX8_refuse hco10 _) (cwV 1 hts gX8_move_X8_refuse rfl rfl rfl eX8_refuse ⟨(Nat.le_of_ble_eq_true rfl), (Nat.le_of_ble_eq_true rfl)⟩) ⟨q_blind, q_recv hw (xN_0 xF_0) (xE_0 xF_0) rfl, q_pre hw⟩ rfl rfl hl.1 rfl (lv_room (Nat.le_of_ble_eq_true rfl)) dX8_move_35 ⟨Nat.zero_le _, Nat.zero_le _⟩) (fun H locs hw => ?_)
          exact q_iret h C0 hr hlk hw dX8_move_38
        · replace h := q_f h c9
          refine lv_iload hx hb dX8_move_24 (lv_at hl 4 rfl) ?_
          obtain ⟨o11, hco11, h⟩ := q_bind h
          refine q_calli hw (va_runS (As := [.int p4]) (rest := []) C0 (kX8_isWay hco11 _) (va_cwS 1 hts gX8_move_X8_isWay rfl rfl rfl eX8_isWay ⟨(Nat.le_of_ble_eq_true rfl), (Nat.le_of_ble_eq_true rfl)⟩) ⟨q_blind, q_pre hw⟩ rfl rfl hl.1 rfl (lv_room (Nat.le_of_ble_eq_true rfl)) dX8_move_26 ⟨Nat.zero_le _, Nat.zero_le _⟩) (fun H locs hw => ?_)
          refine lv_if_ne (tgt := 39) hx hb dX8_move_29 (by decide) (fun c12 => ?_) (fun c12 => ?_)
          · replace h := q_f h c12
            refine lv_aload_n hx hb dX8_move_39 rfl (lv_at hl 0 rfl) ?_
            refine gt_X8_4 C0 hw xF_0 iX8_move_X8 (by decide +kernel) dX8_move_40 ?_
            refine lv_iload_n hx hb dX8_move_43 rfl (lv_at hl 1 rfl) ?_
            obtain ⟨b13, h⟩ := q_if h
            refine q_aald (t0 := 2) C0 hw (xN_8 xF_22) (xE_8 xF_22) rfl b13 rfl dX8_move_44 ?_
            refine lv_bipush (v := (10 : Int32)) hx hb dX8_move_45 (by decide) ?_
            refine lv_iload_n hx hb dX8_move_47 rfl (lv_at hl 2 rfl) ?_
            refine lv_iadd hx hb dX8_move_48 ?_
            refine pt_X6_0 C0 hw (xSh b13) iX8_move_X6 (by decide +kernel) dX8_move_49 (fun σ14 H locs e_σ14 hw => ?_)
            replace h := q_let_at e_σ14 h
            refine lv_aload_n hx hb dX8_move_52 rfl (lv_at hl 0 rfl) ?_
            refine gt_X8_4 C0 hw xF_0 iX8_move_X8 (by decide +kernel) dX8_move_53 ?_
            refine lv_iload_n hx hb dX8_move_56 rfl (lv_at hl 1 rfl) ?_
            obtain ⟨b15, h⟩ := q_if h
            refine q_aald (t0 := 2) C0 hw (xN_8 xF_22) (xE_8 xF_22) rfl b15 rfl dX8_move_57 ?_
            refine gt_X6_2 C0 hw (xSh b15) iX8_move_X6 (by decide +kernel) dX8_move_58 ?_
            refine lv_iload_n hx hb dX8_move_61 rfl (lv_at hl 2 rfl) ?_
            refine lv_iload_n hx hb dX8_move_62 rfl (lv_at hl 3 rfl) ?_
            refine lv_iload hx hb dX8_move_63 (lv_at hl 4 rfl) ?_
            obtain ⟨o16, hco16, h⟩ := q_bind h
            refine q_callv hw (va_runV (As := [.int p2, .int p3, .int p4]) (rest := []) C0 (kX3_become (xD_15_3 (xSh b15)) hco16 _) (cwV 3 hts gX8_move_X3_become rfl rfl rfl eX3_become ⟨(Nat.le_of_ble_eq_true rfl), (Nat.le_of_ble_eq_true rfl)⟩) ⟨q_blind, q_recv hw (xN_18 (xD_15_3 (xSh b15))) (xE_18 (xD_15_3 (xSh b15))) rfl, q_pre hw⟩ rfl rfl hl.1 rfl (lv_room (Nat.le_of_ble_eq_true rfl)) dX8_move_65 ⟨Nat.zero_le _, Nat.zero_le _⟩) (fun H locs hw => ?_)
            refine lv_iconst (v := (1 : Int32)) hx hb dX8_move_68 (by decide) ?_
            exact q_iret h C0 hr hlk hw dX8_move_69
          · replace h := q_t h c12
            refine lv_aload_n hx hb dX8_move_32 rfl (lv_at hl 0 rfl) ?_
            refine lv_bipush (v := (-2 : Int32)) hx hb dX8_move_33 (by decide) ?_
            obtain ⟨o17, hco17, h⟩ := q_bind h
            refine q_calli hw (va_runV (As := [.int (-2 : Int32)]) (rest := []) C0 (kX8_refuse hco17 _) (cwV 1 hts gX8_move_X8_refuse rfl rfl rfl eX8_refuse ⟨(Nat.le_of_ble_eq_true rfl), (Nat.le_of_ble_eq_true rfl)⟩) ⟨q_blind, q_recv hw (xN_0 xF_0) (xE_0 xF_0) rfl, q_pre hw⟩ rfl rfl hl.1 rfl (lv_room (Nat.le_of_ble_eq_true rfl)) dX8_move_35 ⟨Nat.zero_le _, Nat.zero_le _⟩) (fun H locs hw => ?_)
            exact q_iret h C0 hr hlk hw dX8_move_38
-- X8_countComing countComing(LMouldThatComesOff$Move;J)I
theorem iX8_countComing_X0 : ∀ w ∈ wsX00, w ∈ wsX8_countComing := by decide +kernel
theorem iX8_countComing_X2 : ∀ w ∈ wsX20, w ∈ wsX8_countComing := by decide +kernel
theorem iX8_countComing_X8 : ∀ w ∈ wsX80, w ∈ wsX8_countComing := by decide +kernel
theorem eX3_takes : yX3_takes.cls = RX3 ∧ yX3_takes.cls ≠ "java/lang/invoke/MethodHandle" ∧ yX3_takes.cls ≠ "java/lang/invoke/VarHandle" ∧ (parseMethodDescriptor yX3_takes.desc).map (fun d => d.parameters.length) = some 3 := by decide +kernel
set_option maxHeartbeats 4000000 in
set_option maxRecDepth 100000 in
theorem tX8_countComing_c6 {k1 : Nat} {p2 : Int64} (hk1 : xK k1 = 18) (C0 : CallFix p m c cX8_countComing 8 s args wsX8_countComing RX8) (hr : meth.sig.returnType = (some .int)) (hlk : meth.locks = false) {out : Int32 × q_M}  : ∀ n : Nat, ∀ (v4 : Int32) (v5 : Int32) (σ : q_M) (H : Heap) (locs : List Loc) (ls : Array Slot), q_H (gX D cI cJ cS ad adK adV) (q_A (gX D cI cJ cS ad adK adV) s.heap.size) s σ H locs → lv_has ls 8 [(0, .ref (ad 0)), (1, .ref (ad k1)), (2, .long p2), (4, .int v4), (5, .int v5)] → fX8_countComing_c6 k1 p2 n v4 v5 σ = some out → W p l e { frames := 3, cells := 0, slots := 0, locals := 78 } s m args below meth c H locs 0 0 (MQ below (q_Ri (gX D cI cJ cS ad adK adV) (q_A (gX D cI cJ cS ad adK adV) s.heap.size) out) args s 0 0 (q_A (gX D cI cJ cS ad adK adV) s.heap.size)) (F0 m 6 ls []) := by
  obtain ⟨hx, hb, hml, hown, hts⟩ := id C0
  intro n
  induction n with
  | zero =>
    intro v4 v5 σ H locs ls  hw hl h
    cases (show (none : Option (Int32 × q_M)) = some out from h)
  | succ n hrec6 =>
    intro v4 v5 σ H locs ls  hw hl h
    replace h : fX8_countComing_c6b k1 p2 (fX8_countComing_c6 k1 p2 n) v4 v5 σ = some out := h
    unfold fX8_countComing_c6b at h
    refine lv_iload hx hb dX8_countComing_6 (lv_at hl 4 rfl) ?_
    refine lv_aload_n hx hb dX8_countComing_8 rfl (lv_at hl 0 rfl) ?_
    refine gt_X8_0 C0 hw xF_0 iX8_countComing_X8 (by decide +kernel) dX8_countComing_9 ?_
    refine gt_X2_0 C0 hw xF_1 iX8_countComing_X2 (by decide +kernel) dX8_countComing_12 ?_
    refine gt_X0_1 C0 hw xF_2 iX8_countComing_X0 (by decide +kernel) dX8_countComing_15 ?_
    refine lv_icmp_ge (tgt := 68) hx hb dX8_countComing_18 (by decide) (fun c1 => ?_) (fun c1 => ?_)
    · replace h := q_t h c1
      refine lv_iload hx hb dX8_countComing_68 (lv_at hl 3 rfl) ?_
      exact q_iret h C0 hr hlk hw dX8_countComing_70
    · replace h := q_f h c1
      refine lv_lconst (v := (1 : Int64)) hx hb dX8_countComing_21 (by decide) ?_
      refine lv_iload hx hb dX8_countComing_22 (lv_at hl 4 rfl) ?_
      refine lv_lshl (v := (q_shl (1 : Int64) v5)) hx hb dX8_countComing_24 rfl ?_
      refine lv_lstore (lv' := [(6, .long (q_shl (1 : Int64) v5)), (0, .ref (ad 0)), (1, .ref (ad k1)), (2, .long p2), (4, .int v4), (5, .int v5)]) hx hb dX8_countComing_25 hl (by decide) rfl (fun ls hl => ?_)
      refine lv_lload_n hx hb dX8_countComing_27 rfl (lv_at hl 3 rfl) ?_
      refine lv_lload hx hb dX8_countComing_28 (lv_at hl 0 rfl) ?_
      refine lv_land hx hb dX8_countComing_30 ?_
      refine lv_lconst (v := (0 : Int64)) hx hb dX8_countComing_31 (by decide) ?_
      refine q_lcmp_eq (tgt := 62) C0 dX8_countComing_32 dX8_countComing_33 (by decide) (fun c2 => ?_) (fun c2 => ?_)
      · replace h := q_t h c2
        refine lv_iinc (v := (v5 + (1 : Int32))) (lv' := [(5, .int (v5 + (1 : Int32))), (6, .long (q_shl (1 : Int64) v5)), (0, .ref (ad 0)), (1, .ref (ad k1)), (2, .long p2), (4, .int v4)]) hx hb dX8_countComing_62 hl (k := 5) rfl rfl (by decide) rfl (fun ls hl => ?_)
        refine lv_goto (tgt := 6) hx hb dX8_countComing_65 (by decide) ?_
        exact hrec6 v4 (v5 + (1 : Int32)) σ _ _ _ hw (lv_sub hl [2, 3, 4, 5, 0] rfl) h
      · replace h := q_f h c2
        refine lv_aload_n hx hb dX8_countComing_36 rfl (lv_at hl 2 rfl) ?_
        refine lv_aload_n hx hb dX8_countComing_37 rfl (lv_at hl 1 rfl) ?_
        refine gt_X8_0 C0 hw xF_0 iX8_countComing_X8 (by decide +kernel) dX8_countComing_38 ?_
        refine gt_X2_0 C0 hw xF_1 iX8_countComing_X2 (by decide +kernel) dX8_countComing_41 ?_
        refine lv_lload hx hb dX8_countComing_44 (lv_at hl 0 rfl) ?_
        refine lv_aload_n hx hb dX8_countComing_46 rfl (lv_at hl 1 rfl) ?_
        refine gt_X8_0 C0 hw xF_0 iX8_countComing_X8 (by decide +kernel) dX8_countComing_47 ?_
        refine gt_X2_1 C0 hw xF_1 iX8_countComing_X2 (by decide +kernel) dX8_countComing_50 ?_
        obtain ⟨o3, hco3, h⟩ := q_bind h
        refine q_calli hw (va_runV (As := [.ref (ad 2), .long (q_shl (1 : Int64) v5), .long (σ.2 1 1)]) (rest := []) C0 (kX3_takes hk1 xF_2 hco3 _) (cwV 3 hts gX8_countComing_X3_takes rfl rfl rfl eX3_takes ⟨(Nat.le_of_ble_eq_true rfl), (Nat.le_of_ble_eq_true rfl)⟩) ⟨q_blind, q_recv hw (xN_18 hk1) (xE_18 hk1) rfl, q_pre hw⟩ rfl rfl hl.1 rfl (lv_room (Nat.le_of_ble_eq_true rfl)) dX8_countComing_53 ⟨Nat.zero_le _, Nat.zero_le _⟩) (fun H locs hw => ?_)
        refine lv_if_eq (tgt := 62) hx hb dX8_countComing_56 (by decide) (fun c4 => ?_) (fun c4 => ?_)
        · replace h := q_t h c4
          refine lv_iinc (v := (v5 + (1 : Int32))) (lv' := [(5, .int (v5 + (1 : Int32))), (6, .long (q_shl (1 : Int64) v5)), (0, .ref (ad 0)), (1, .ref (ad k1)), (2, .long p2), (4, .int v4)]) hx hb dX8_countComing_62 hl (k := 5) rfl rfl (by decide) rfl (fun ls hl => ?_)
          refine lv_goto (tgt := 6) hx hb dX8_countComing_65 (by decide) ?_
          exact hrec6 v4 (v5 + (1 : Int32)) o3.2 _ _ _ hw (lv_sub hl [2, 3, 4, 5, 0] rfl) h
        · replace h := q_f h c4
          refine lv_iinc (v := (v4 + (1 : Int32))) (lv' := [(4, .int (v4 + (1 : Int32))), (6, .long (q_shl (1 : Int64) v5)), (0, .ref (ad 0)), (1, .ref (ad k1)), (2, .long p2), (5, .int v5)]) hx hb dX8_countComing_59 hl (k := 4) rfl rfl (by decide) rfl (fun ls hl => ?_)
          refine lv_iinc (v := (v5 + (1 : Int32))) (lv' := [(5, .int (v5 + (1 : Int32))), (4, .int (v4 + (1 : Int32))), (6, .long (q_shl (1 : Int64) v5)), (0, .ref (ad 0)), (1, .ref (ad k1)), (2, .long p2)]) hx hb dX8_countComing_62 hl (k := 5) rfl rfl (by decide) rfl (fun ls hl => ?_)
          refine lv_goto (tgt := 6) hx hb dX8_countComing_65 (by decide) ?_
          exact hrec6 (v4 + (1 : Int32)) (v5 + (1 : Int32)) o3.2 _ _ _ hw (lv_sub hl [3, 4, 5, 1, 0] rfl) h
set_option maxHeartbeats 4000000 in
set_option maxRecDepth 100000 in
theorem kX8_countComing {k1 : Nat} {p2 : Int64} (hk1 : xK k1 = 18) {σ : q_M} {out : Int32 × q_M} (h : fX8_countComing k1 p2 σ = some out) : q_Mi l (gX D cI cJ cS ad adK adV) yX8_countComing wsX8_countComing { frames := 3, cells := 0, slots := 0, locals := 78 } [.ref (ad 0), .ref (ad k1), .long p2] σ out := by
  refine q_Mi_of (cc := cX8_countComing) (maxL := 8) (ret := (some .int)) (by decide) rfl (Nat.le_of_ble_eq_true rfl) ?_
  intro p e s m below meth c ls C0 hr hlk hl hw
  obtain ⟨hx, hb, hml, hown, hts⟩ := id C0
  replace hl : lv_has ls 8 [(0, .ref (ad 0)), (1, .ref (ad k1)), (2, .long p2)] := hl
  unfold fX8_countComing at h
  refine lv_iconst (v := (0 : Int32)) hx hb dX8_countComing_0 (by decide) ?_
  refine lv_istore (lv' := [(4, .int (0 : Int32)), (0, .ref (ad 0)), (1, .ref (ad k1)), (2, .long p2)]) hx hb dX8_countComing_1 hl (by decide) rfl (fun ls hl => ?_)
  refine lv_iconst (v := (0 : Int32)) hx hb dX8_countComing_3 (by decide) ?_
  refine lv_istore (lv' := [(5, .int (0 : Int32)), (4, .int (0 : Int32)), (0, .ref (ad 0)), (1, .ref (ad k1)), (2, .long p2)]) hx hb dX8_countComing_4 hl (by decide) rfl (fun ls hl => ?_)
  exact tX8_countComing_c6 hk1 C0 hr hlk q_FU (0 : Int32) (0 : Int32) σ _ _ _ hw (lv_sub hl [2, 3, 4, 1, 0] rfl) h
-- X8_moveRefusal moveRefusal(I)I
theorem iX8_moveRefusal_X8 : ∀ w ∈ wsX80, w ∈ wsX8_moveRefusal := by decide +kernel
set_option maxHeartbeats 4000000 in
set_option maxRecDepth 100000 in
theorem kX8_moveRefusal {p1 : Int32}  {σ : q_M} {out : Int32 × q_M} (h : fX8_moveRefusal p1 σ = some out) : q_Mi l (gX D cI cJ cS ad adK adV) yX8_moveRefusal wsX8_moveRefusal { frames := 1, cells := 0, slots := 0, locals := 20 } [.ref (ad 0), .int p1] σ out := by
  refine q_Mi_of (cc := cX8_moveRefusal) (maxL := 2) (ret := (some .int)) (by decide) rfl (Nat.le_of_ble_eq_true rfl) ?_
  intro p e s m below meth c ls C0 hr hlk hl hw
  obtain ⟨hx, hb, hml, hown, hts⟩ := id C0
  replace hl : lv_has ls 2 [(0, .ref (ad 0)), (1, .int p1)] := hl
  unfold fX8_moveRefusal at h
  refine lv_iload_n hx hb dX8_moveRefusal_0 rfl (lv_at hl 1 rfl) ?_
  obtain ⟨o1, hco1, h⟩ := q_bind h
  refine q_calli hw (va_runS (As := [.int p1]) (rest := []) C0 (kX8_isShelf hco1 _) (va_cwS 1 hts gX8_moveRefusal_X8_isShelf rfl rfl rfl eX8_isShelf ⟨(Nat.le_of_ble_eq_true rfl), (Nat.le_of_ble_eq_true rfl)⟩) ⟨q_blind, q_pre hw⟩ rfl rfl hl.1 rfl (lv_room (Nat.le_of_ble_eq_true rfl)) dX8_moveRefusal_1 ⟨Nat.zero_le _, Nat.zero_le _⟩) (fun H locs hw => ?_)
  refine lv_if_ne (tgt := 10) hx hb dX8_moveRefusal_4 (by decide) (fun c2 => ?_) (fun c2 => ?_)
  · replace h := q_f h c2
    refine lv_aload_n hx hb dX8_moveRefusal_10 rfl (lv_at hl 0 rfl) ?_
    refine gt_X8_4 C0 hw xF_0 iX8_moveRefusal_X8 (by decide +kernel) dX8_moveRefusal_11 ?_
    refine lv_iload_n hx hb dX8_moveRefusal_14 rfl (lv_at hl 1 rfl) ?_
    obtain ⟨b3, h⟩ := q_if h
    refine q_aald (t0 := 2) C0 hw (xN_8 xF_22) (xE_8 xF_22) rfl b3 rfl dX8_moveRefusal_15 ?_
    obtain ⟨o4, hco4, h⟩ := q_bind h
    refine q_calli hw (va_runV (As := []) (rest := []) C0 (kX6_isRow (xSh b3) hco4 _) (cwV 0 hts gX8_moveRefusal_X6_isRow rfl rfl rfl eX6_isRow ⟨(Nat.le_of_ble_eq_true rfl), (Nat.le_of_ble_eq_true rfl)⟩) ⟨q_blind, q_recv hw (xN_15 (xSh b3)) (xE_15 (xSh b3)) rfl, q_pre hw⟩ rfl rfl hl.1 rfl (lv_room (Nat.le_of_ble_eq_true rfl)) dX8_moveRefusal_16 ⟨Nat.zero_le _, Nat.zero_le _⟩) (fun H locs hw => ?_)
    refine lv_if_eq (tgt := 25) hx hb dX8_moveRefusal_19 (by decide) (fun c5 => ?_) (fun c5 => ?_)
    · replace h := q_t h c5
      refine lv_aload_n hx hb dX8_moveRefusal_25 rfl (lv_at hl 0 rfl) ?_
      refine gt_X8_4 C0 hw xF_0 iX8_moveRefusal_X8 (by decide +kernel) dX8_moveRefusal_26 ?_
      refine lv_iload_n hx hb dX8_moveRefusal_29 rfl (lv_at hl 1 rfl) ?_
      obtain ⟨b6, h⟩ := q_if h
      refine q_aald (t0 := 2) C0 hw (xN_8 xF_22) (xE_8 xF_22) rfl b6 rfl dX8_moveRefusal_30 ?_
      obtain ⟨o7, hco7, h⟩ := q_bind h
      refine q_calli hw (va_runV (As := []) (rest := []) C0 (kX6_isMove (xSh b6) hco7 _) (cwV 0 hts gX8_moveRefusal_X6_isMove rfl rfl rfl eX6_isMove ⟨(Nat.le_of_ble_eq_true rfl), (Nat.le_of_ble_eq_true rfl)⟩) ⟨q_blind, q_recv hw (xN_15 (xSh b6)) (xE_15 (xSh b6)) rfl, q_pre hw⟩ rfl rfl hl.1 rfl (lv_room (Nat.le_of_ble_eq_true rfl)) dX8_moveRefusal_31 ⟨Nat.zero_le _, Nat.zero_le _⟩) (fun H locs hw => ?_)
      refine lv_if_eq (tgt := 41) hx hb dX8_moveRefusal_34 (by decide) (fun c8 => ?_) (fun c8 => ?_)
      · replace h := q_t h c8
        refine lv_bipush (v := (-4 : Int32)) hx hb dX8_moveRefusal_41 (by decide) ?_
        exact q_iret h C0 hr hlk hw dX8_moveRefusal_43
      · replace h := q_f h c8
        refine lv_iconst (v := (0 : Int32)) hx hb dX8_moveRefusal_37 (by decide) ?_
        refine lv_goto (tgt := 43) hx hb dX8_moveRefusal_38 (by decide) ?_
        exact q_iret h C0 hr hlk hw dX8_moveRefusal_43
    · replace h := q_f h c5
      refine lv_bipush (v := (-3 : Int32)) hx hb dX8_moveRefusal_22 (by decide) ?_
      exact q_iret h C0 hr hlk hw dX8_moveRefusal_24
  · replace h := q_t h c2
    refine lv_bipush (v := (-2 : Int32)) hx hb dX8_moveRefusal_7 (by decide) ?_
    exact q_iret h C0 hr hlk hw dX8_moveRefusal_9
-- X8_says says(II)I
theorem iX8_says_X3 : ∀ w ∈ wsX30, w ∈ wsX8_says := by decide +kernel
theorem iX8_says_X6 : ∀ w ∈ wsX60, w ∈ wsX8_says := by decide +kernel
theorem iX8_says_X8 : ∀ w ∈ wsX80, w ∈ wsX8_says := by decide +kernel
theorem eX3_isOfKind : yX3_isOfKind.cls = RX3 ∧ yX3_isOfKind.cls ≠ "java/lang/invoke/MethodHandle" ∧ yX3_isOfKind.cls ≠ "java/lang/invoke/VarHandle" ∧ (parseMethodDescriptor yX3_isOfKind.desc).map (fun d => d.parameters.length) = some 1 := by decide +kernel
theorem eX8_countComing : yX8_countComing.cls = RX8 ∧ yX8_countComing.cls ≠ "java/lang/invoke/MethodHandle" ∧ yX8_countComing.cls ≠ "java/lang/invoke/VarHandle" ∧ (parseMethodDescriptor yX8_countComing.desc).map (fun d => d.parameters.length) = some 2 := by decide +kernel
theorem eX8_moveRefusal : yX8_moveRefusal.cls = RX8 ∧ yX8_moveRefusal.cls ≠ "java/lang/invoke/MethodHandle" ∧ yX8_moveRefusal.cls ≠ "java/lang/invoke/VarHandle" ∧ (parseMethodDescriptor yX8_moveRefusal.desc).map (fun d => d.parameters.length) = some 1 := by decide +kernel
set_option maxHeartbeats 4000000 in
set_option maxRecDepth 100000 in
theorem tX8_says_c19 {p1 : Int32} {p2 : Int32}  (C0 : CallFix p m c cX8_says 5 s args wsX8_says RX8) (hr : meth.sig.returnType = (some .int)) (hlk : meth.locks = false) {out : Int32 × q_M}  : ∀ (s0 : Int32) (σ : q_M) (H : Heap) (locs : List Loc) (ls : Array Slot), q_H (gX D cI cJ cS ad adK adV) (q_A (gX D cI cJ cS ad adK adV) s.heap.size) s σ H locs → lv_has ls 5 [(0, .ref (ad 0)), (1, .int p1), (2, .int p2)] → fX8_says_c19 p1 p2 s0 σ = some out → W p l e { frames := 4, cells := 0, slots := 0, locals := 105 } s m args below meth c H locs 0 0 (MQ below (q_Ri (gX D cI cJ cS ad adK adV) (q_A (gX D cI cJ cS ad adK adV) s.heap.size) out) args s 0 0 (q_A (gX D cI cJ cS ad adK adV) s.heap.size)) (F0 m 19 ls [.int s0]) := by
  obtain ⟨hx, hb, hml, hown, hts⟩ := id C0
  intro s0 σ H locs ls  hw hl h
  unfold fX8_says_c19 at h
  refine lv_istore_n (lv' := [(3, .int s0), (0, .ref (ad 0)), (1, .int p1), (2, .int p2)]) hx hb dX8_says_19 rfl hl (by decide) rfl (fun ls hl => ?_)
  refine lv_iload_n hx hb dX8_says_20 rfl (lv_at hl 0 rfl) ?_
  refine lv_if_eq (tgt := 30) hx hb dX8_says_21 (by decide) (fun c1 => ?_) (fun c1 => ?_)
  · replace h := q_t h c1
    refine lv_aload_n hx hb dX8_says_30 rfl (lv_at hl 1 rfl) ?_
    refine gt_X8_4 C0 hw xF_0 iX8_says_X8 (by decide +kernel) dX8_says_31 ?_
    refine lv_iload_n hx hb dX8_says_34 rfl (lv_at hl 2 rfl) ?_
    obtain ⟨b2, h⟩ := q_if h
    refine q_aald (t0 := 2) C0 hw (xN_8 xF_22) (xE_8 xF_22) rfl b2 rfl dX8_says_35 ?_
    refine gt_X6_2 C0 hw (xSh b2) iX8_says_X6 (by decide +kernel) dX8_says_36 ?_
    refine lv_astore (lv' := [(4, .ref (ad ((31 + 4 * p1.toNatClampNeg) + 3))), (3, .int s0), (0, .ref (ad 0)), (1, .int p1), (2, .int p2)]) hx hb dX8_says_39 hl (by decide) rfl (fun ls hl => ?_)
    refine lv_aload hx hb dX8_says_41 (lv_at hl 0 rfl) ?_
    refine lv_iload_n hx hb dX8_says_43 rfl (lv_at hl 4 rfl) ?_
    obtain ⟨o3, hco3, h⟩ := q_bind h
    refine q_calli hw (va_runV (As := [.int p2]) (rest := []) C0 (kX3_isOfKind (xD_15_3 (xSh b2)) hco3 _) (cwV 1 hts gX8_says_X3_isOfKind rfl rfl rfl eX3_isOfKind ⟨(Nat.le_of_ble_eq_true rfl), (Nat.le_of_ble_eq_true rfl)⟩) ⟨q_blind, q_recv hw (xN_18 (xD_15_3 (xSh b2))) (xE_18 (xD_15_3 (xSh b2))) rfl, q_pre hw⟩ rfl rfl hl.1 rfl (lv_room (Nat.le_of_ble_eq_true rfl)) dX8_says_44 ⟨Nat.zero_le _, Nat.zero_le _⟩) (fun H locs hw => ?_)
    refine lv_if_ne (tgt := 57) hx hb dX8_says_47 (by decide) (fun c4 => ?_) (fun c4 => ?_)
    · replace h := q_f h c4
      refine lv_iload_n hx hb dX8_says_57 rfl (lv_at hl 4 rfl) ?_
      by_cases c5 : p2 = (0 : Int32)
      · replace h := q_t h c5
        refine q_lookIn (off := 34) (tgt := 92) C0 c5 dX8_says_58 (by decide) (by decide) (by decide) ?_
        refine lv_aload hx hb dX8_says_92 (lv_at hl 0 rfl) ?_
        refine gt_X3_1 C0 hw (xD_15_3 (xSh b2)) iX8_says_X3 (by decide +kernel) dX8_says_94 ?_
        exact q_iret h C0 hr hlk hw dX8_says_97
      · replace h := q_f h c5
        by_cases c6 : p2 = (2 : Int32)
        · replace h := q_t h c6
          refine q_lookIn (off := 40) (tgt := 98) C0 c6 dX8_says_58 (by decide) (by decide) (by decide) ?_
          refine lv_aload hx hb dX8_says_98 (lv_at hl 0 rfl) ?_
          refine gt_X3_2 C0 hw (xD_15_3 (xSh b2)) iX8_says_X3 (by decide +kernel) dX8_says_100 ?_
          exact q_iret h C0 hr hlk hw dX8_says_103
        · replace h := q_f h c6
          by_cases c7 : p2 = (5 : Int32)
          · replace h := q_t h c7
            refine q_lookIn (off := 40) (tgt := 98) C0 c7 dX8_says_58 (by decide) (by decide) (by decide) ?_
            refine lv_aload hx hb dX8_says_98 (lv_at hl 0 rfl) ?_
            refine gt_X3_2 C0 hw (xD_15_3 (xSh b2)) iX8_says_X3 (by decide +kernel) dX8_says_100 ?_
            exact q_iret h C0 hr hlk hw dX8_says_103
          · replace h := q_f h c7
            have n_c5 := q_neI (n := 0) c5 (by decide)
            have n_c6 := q_neI (n := 2) c6 (by decide)
            have n_c7 := q_neI (n := 5) c7 (by decide)
            refine lv_lookup (off := 46) (tgt := 104) hx hb dX8_says_58 (by decide) (by simp [Op.lookupswitch.offset, n_c5.symm, n_c6.symm, n_c7.symm]) (by decide) ?_
            refine lv_aload_n hx hb dX8_says_104 rfl (lv_at hl 2 rfl) ?_
            refine lv_aload hx hb dX8_says_105 (lv_at hl 0 rfl) ?_
            refine lv_aload_n hx hb dX8_says_107 rfl (lv_at hl 2 rfl) ?_
            refine gt_X8_0 C0 hw xF_0 iX8_says_X8 (by decide +kernel) dX8_says_108 ?_
            obtain ⟨o8, hco8, h⟩ := q_bind h
            refine q_calll hw (va_runV (As := []) (rest := [.ref (ad ((31 + 4 * p1.toNatClampNeg) + 3)), .ref (ad 0)]) C0 (kX2_emptyCubes xF_1 hco8 _) (cwV 0 hts gX8_says_X2_emptyCubes rfl rfl rfl eX2_emptyCubes ⟨(Nat.le_of_ble_eq_true rfl), (Nat.le_of_ble_eq_true rfl)⟩) ⟨q_blind, q_recv hw (xN_1 xF_1) (xE_1 xF_1) rfl, q_pre hw⟩ rfl rfl hl.1 rfl (lv_room (Nat.le_of_ble_eq_true rfl)) dX8_says_111 ⟨Nat.zero_le _, Nat.zero_le _⟩) (fun H locs hw => ?_)
            obtain ⟨o9, hco9, h⟩ := q_bind h
            refine q_calli hw (va_runV (As := [.ref (ad ((31 + 4 * p1.toNatClampNeg) + 3)), .long o8.1]) (rest := []) C0 (kX8_countComing (xD_15_3 (xSh b2)) hco9 _) (cwV 2 hts gX8_says_X8_countComing rfl rfl rfl eX8_countComing ⟨(Nat.le_of_ble_eq_true rfl), (Nat.le_of_ble_eq_true rfl)⟩) ⟨q_blind, q_recv hw (xN_0 xF_0) (xE_0 xF_0) rfl, q_pre hw⟩ rfl rfl hl.1 rfl (lv_room (Nat.le_of_ble_eq_true rfl)) dX8_says_114 ⟨Nat.zero_le _, Nat.zero_le _⟩) (fun H locs hw => ?_)
            exact q_iret h C0 hr hlk hw dX8_says_117
    · replace h := q_t h c4
      refine lv_aload_n hx hb dX8_says_50 rfl (lv_at hl 2 rfl) ?_
      refine lv_bipush (v := (-3 : Int32)) hx hb dX8_says_51 (by decide) ?_
      obtain ⟨o10, hco10, h⟩ := q_bind h
      refine q_calli hw (va_runV (As := [.int (-3 : Int32)]) (rest := []) C0 (kX8_refuse hco10 _) (cwV 1 hts gX8_says_X8_refuse rfl rfl rfl eX8_refuse ⟨(Nat.le_of_ble_eq_true rfl), (Nat.le_of_ble_eq_true rfl)⟩) ⟨q_blind, q_recv hw (xN_0 xF_0) (xE_0 xF_0) rfl, q_pre hw⟩ rfl rfl hl.1 rfl (lv_room (Nat.le_of_ble_eq_true rfl)) dX8_says_53 ⟨Nat.zero_le _, Nat.zero_le _⟩) (fun H locs hw => ?_)
      exact q_iret h C0 hr hlk hw dX8_says_56
  · replace h := q_f h c1
    refine lv_aload_n hx hb dX8_says_24 rfl (lv_at hl 1 rfl) ?_
    refine lv_iload_n hx hb dX8_says_25 rfl (lv_at hl 0 rfl) ?_
    obtain ⟨o11, hco11, h⟩ := q_bind h
    refine q_calli hw (va_runV (As := [.int s0]) (rest := []) C0 (kX8_refuse hco11 _) (cwV 1 hts gX8_says_X8_refuse rfl rfl rfl eX8_refuse ⟨(Nat.le_of_ble_eq_true rfl), (Nat.le_of_ble_eq_true rfl)⟩) ⟨q_blind, q_recv hw (xN_0 xF_0) (xE_0 xF_0) rfl, q_pre hw⟩ rfl rfl hl.1 rfl (lv_room (Nat.le_of_ble_eq_true rfl)) dX8_says_26 ⟨Nat.zero_le _, Nat.zero_le _⟩) (fun H locs hw => ?_)
    exact q_iret h C0 hr hlk hw dX8_says_29
set_option maxHeartbeats 4000000 in
set_option maxRecDepth 100000 in
theorem kX8_says {p1 : Int32} {p2 : Int32}  {σ : q_M} {out : Int32 × q_M} (h : fX8_says p1 p2 σ = some out) : q_Mi l (gX D cI cJ cS ad adK adV) yX8_says wsX8_says { frames := 4, cells := 0, slots := 0, locals := 105 } [.ref (ad 0), .int p1, .int p2] σ out := by
  refine q_Mi_of (cc := cX8_says) (maxL := 5) (ret := (some .int)) (by decide) rfl (Nat.le_of_ble_eq_true rfl) ?_
  intro p e s m below meth c ls C0 hr hlk hl hw
  obtain ⟨hx, hb, hml, hown, hts⟩ := id C0
  replace hl : lv_has ls 5 [(0, .ref (ad 0)), (1, .int p1), (2, .int p2)] := hl
  unfold fX8_says at h
  refine lv_iload_n hx hb dX8_says_0 rfl (lv_at hl 2 rfl) ?_
  refine lv_if_lt (tgt := 9) hx hb dX8_says_1 (by decide) (fun c1 => ?_) (fun c1 => ?_)
  · replace h := q_t h c1
    refine lv_bipush (v := (-2 : Int32)) hx hb dX8_says_9 (by decide) ?_
    refine lv_goto (tgt := 19) hx hb dX8_says_11 (by decide) ?_
    exact tX8_says_c19 C0 hr hlk (-2 : Int32) σ _ _ _ hw (lv_sub hl [0, 1, 2] rfl) h
  · replace h := q_f h c1
    refine lv_iload_n hx hb dX8_says_4 rfl (lv_at hl 2 rfl) ?_
    refine lv_iconst (v := (5 : Int32)) hx hb dX8_says_5 (by decide) ?_
    refine lv_icmp_le (tgt := 14) hx hb dX8_says_6 (by decide) (fun c2 => ?_) (fun c2 => ?_)
    · replace h := q_t h c2
      refine lv_aload_n hx hb dX8_says_14 rfl (lv_at hl 0 rfl) ?_
      refine lv_iload_n hx hb dX8_says_15 rfl (lv_at hl 1 rfl) ?_
      obtain ⟨o3, hco3, h⟩ := q_bind h
      refine q_calli hw (va_runV (As := [.int p1]) (rest := []) C0 (kX8_moveRefusal hco3 _) (cwV 1 hts gX8_says_X8_moveRefusal rfl rfl rfl eX8_moveRefusal ⟨(Nat.le_of_ble_eq_true rfl), (Nat.le_of_ble_eq_true rfl)⟩) ⟨q_blind, q_recv hw (xN_0 xF_0) (xE_0 xF_0) rfl, q_pre hw⟩ rfl rfl hl.1 rfl (lv_room (Nat.le_of_ble_eq_true rfl)) dX8_says_16 ⟨Nat.zero_le _, Nat.zero_le _⟩) (fun H locs hw => ?_)
      exact tX8_says_c19 C0 hr hlk o3.1 o3.2 _ _ _ hw (lv_sub hl [0, 1, 2] rfl) h
    · replace h := q_f h c2
      refine lv_bipush (v := (-2 : Int32)) hx hb dX8_says_9 (by decide) ?_
      refine lv_goto (tgt := 19) hx hb dX8_says_11 (by decide) ?_
      exact tX8_says_c19 C0 hr hlk (-2 : Int32) σ _ _ _ hw (lv_sub hl [0, 1, 2] rfl) h
-- X8_size size(I)I
theorem iX8_size_X0 : ∀ w ∈ wsX00, w ∈ wsX8_size := by decide +kernel
theorem iX8_size_X2 : ∀ w ∈ wsX20, w ∈ wsX8_size := by decide +kernel
theorem iX8_size_X8 : ∀ w ∈ wsX80, w ∈ wsX8_size := by decide +kernel
set_option maxHeartbeats 4000000 in
set_option maxRecDepth 100000 in
theorem kX8_size {p1 : Int32}  {σ : q_M} {out : Int32 × q_M} (h : fX8_size p1 σ = some out) : q_Mi l (gX D cI cJ cS ad adK adV) yX8_size wsX8_size { frames := 3, cells := 0, slots := 0, locals := 71 } [.ref (ad 0), .int p1] σ out := by
  refine q_Mi_of (cc := cX8_size) (maxL := 3) (ret := (some .int)) (by decide) rfl (Nat.le_of_ble_eq_true rfl) ?_
  intro p e s m below meth c ls C0 hr hlk hl hw
  obtain ⟨hx, hb, hml, hown, hts⟩ := id C0
  replace hl : lv_has ls 3 [(0, .ref (ad 0)), (1, .int p1)] := hl
  unfold fX8_size at h
  refine lv_iload_n hx hb dX8_size_0 rfl (lv_at hl 1 rfl) ?_
  refine lv_iconst (v := (2 : Int32)) hx hb dX8_size_1 (by decide) ?_
  refine lv_icmp_lt (tgt := 10) hx hb dX8_size_2 (by decide) (fun c1 => ?_) (fun c1 => ?_)
  · replace h := q_t h c1
    refine lv_aload_n hx hb dX8_size_10 rfl (lv_at hl 0 rfl) ?_
    refine lv_bipush (v := (-2 : Int32)) hx hb dX8_size_11 (by decide) ?_
    obtain ⟨o2, hco2, h⟩ := q_bind h
    refine q_calli hw (va_runV (As := [.int (-2 : Int32)]) (rest := []) C0 (kX8_refuse hco2 _) (cwV 1 hts gX8_size_X8_refuse rfl rfl rfl eX8_refuse ⟨(Nat.le_of_ble_eq_true rfl), (Nat.le_of_ble_eq_true rfl)⟩) ⟨q_blind, q_recv hw (xN_0 xF_0) (xE_0 xF_0) rfl, q_pre hw⟩ rfl rfl hl.1 rfl (lv_room (Nat.le_of_ble_eq_true rfl)) dX8_size_13 ⟨Nat.zero_le _, Nat.zero_le _⟩) (fun H locs hw => ?_)
    exact q_iret h C0 hr hlk hw dX8_size_16
  · replace h := q_f h c1
    refine lv_iload_n hx hb dX8_size_5 rfl (lv_at hl 1 rfl) ?_
    refine lv_iconst (v := (4 : Int32)) hx hb dX8_size_6 (by decide) ?_
    refine lv_icmp_le (tgt := 17) hx hb dX8_size_7 (by decide) (fun c3 => ?_) (fun c3 => ?_)
    · replace h := q_t h c3
      refine lv_aload_n hx hb dX8_size_17 rfl (lv_at hl 0 rfl) ?_
      refine gt_X8_0 C0 hw xF_0 iX8_size_X8 (by decide +kernel) dX8_size_18 ?_
      refine gt_X2_0 C0 hw xF_1 iX8_size_X2 (by decide +kernel) dX8_size_21 ?_
      refine gt_X0_0 C0 hw xF_2 iX8_size_X0 (by decide +kernel) dX8_size_24 ?_
      refine lv_istore_n (lv' := [(2, .int (σ.1 2 0)), (0, .ref (ad 0)), (1, .int p1)]) hx hb dX8_size_27 rfl hl (by decide) rfl (fun ls hl => ?_)
      refine lv_aload_n hx hb dX8_size_28 rfl (lv_at hl 1 rfl) ?_
      refine gt_X8_0 C0 hw xF_0 iX8_size_X8 (by decide +kernel) dX8_size_29 ?_
      refine lv_iload_n hx hb dX8_size_32 rfl (lv_at hl 2 rfl) ?_
      obtain ⟨o4, hco4, h⟩ := q_bind h
      refine q_callv hw (va_runV (As := [.int p1]) (rest := []) C0 (kX2_clearTo xF_1 hco4 _) (cwV 1 hts gX8_size_X2_clearTo rfl rfl rfl eX2_clearTo ⟨(Nat.le_of_ble_eq_true rfl), (Nat.le_of_ble_eq_true rfl)⟩) ⟨q_blind, q_recv hw (xN_1 xF_1) (xE_1 xF_1) rfl, q_pre hw⟩ rfl rfl hl.1 rfl (lv_room (Nat.le_of_ble_eq_true rfl)) dX8_size_33 ⟨Nat.zero_le _, Nat.zero_le _⟩) (fun H locs hw => ?_)
      refine lv_iload_n hx hb dX8_size_36 rfl (lv_at hl 0 rfl) ?_
      exact q_iret h C0 hr hlk hw dX8_size_37
    · replace h := q_f h c3
      refine lv_aload_n hx hb dX8_size_10 rfl (lv_at hl 0 rfl) ?_
      refine lv_bipush (v := (-2 : Int32)) hx hb dX8_size_11 (by decide) ?_
      obtain ⟨o5, hco5, h⟩ := q_bind h
      refine q_calli hw (va_runV (As := [.int (-2 : Int32)]) (rest := []) C0 (kX8_refuse hco5 _) (cwV 1 hts gX8_size_X8_refuse rfl rfl rfl eX8_refuse ⟨(Nat.le_of_ble_eq_true rfl), (Nat.le_of_ble_eq_true rfl)⟩) ⟨q_blind, q_recv hw (xN_0 xF_0) (xE_0 xF_0) rfl, q_pre hw⟩ rfl rfl hl.1 rfl (lv_room (Nat.le_of_ble_eq_true rfl)) dX8_size_13 ⟨Nat.zero_le _, Nat.zero_le _⟩) (fun H locs hw => ?_)
      exact q_iret h C0 hr hlk hw dX8_size_16
-- X8_solid solid(JZ)I
theorem iX8_solid_X0 : ∀ w ∈ wsX00, w ∈ wsX8_solid := by decide +kernel
theorem iX8_solid_X2 : ∀ w ∈ wsX20, w ∈ wsX8_solid := by decide +kernel
theorem iX8_solid_X8 : ∀ w ∈ wsX80, w ∈ wsX8_solid := by decide +kernel
set_option maxHeartbeats 4000000 in
set_option maxRecDepth 100000 in
theorem kX8_solid {p1 : Int64} {p3 : Int32}  {σ : q_M} {out : Int32 × q_M} (h : fX8_solid p1 p3 σ = some out) : q_Mi l (gX D cI cJ cS ad adK adV) yX8_solid wsX8_solid { frames := 1, cells := 0, slots := 0, locals := 21 } [.ref (ad 0), .long p1, .int p3] σ out := by
  refine q_Mi_of (cc := cX8_solid) (maxL := 6) (ret := (some .int)) (by decide) rfl (Nat.le_of_ble_eq_true rfl) ?_
  intro p e s m below meth c ls C0 hr hlk hl hw
  obtain ⟨hx, hb, hml, hown, hts⟩ := id C0
  replace hl : lv_has ls 6 [(0, .ref (ad 0)), (1, .long p1), (3, .int p3)] := hl
  unfold fX8_solid at h
  refine lv_aload_n hx hb dX8_solid_0 rfl (lv_at hl 0 rfl) ?_
  refine gt_X8_0 C0 hw xF_0 iX8_solid_X8 (by decide +kernel) dX8_solid_1 ?_
  refine gt_X2_1 C0 hw xF_1 iX8_solid_X2 (by decide +kernel) dX8_solid_4 ?_
  refine lv_lstore (lv' := [(4, .long (σ.2 1 1)), (0, .ref (ad 0)), (1, .long p1), (3, .int p3)]) hx hb dX8_solid_7 hl (by decide) rfl (fun ls hl => ?_)
  refine lv_aload_n hx hb dX8_solid_9 rfl (lv_at hl 1 rfl) ?_
  refine gt_X8_0 C0 hw xF_0 iX8_solid_X8 (by decide +kernel) dX8_solid_10 ?_
  refine lv_iload_n hx hb dX8_solid_13 rfl (lv_at hl 3 rfl) ?_
  refine lv_if_eq (tgt := 35) hx hb dX8_solid_14 (by decide) (fun c1 => ?_) (fun c1 => ?_)
  · replace h := q_t h c1
    refine lv_lload hx hb dX8_solid_35 (lv_at hl 0 rfl) ?_
    refine lv_lload_n hx hb dX8_solid_37 rfl (lv_at hl 2 rfl) ?_
    refine lv_ldc2 (v := (-1 : Int64)) hx hb hown (hts (.constantLong RX8 168 (-1)) (by decide +kernel)) dX8_solid_38 ?_
    refine lv_lxor hx hb dX8_solid_41 ?_
    refine lv_land hx hb dX8_solid_42 ?_
    refine pt_X2_1 C0 hw xF_1 iX8_solid_X2 (by decide +kernel) dX8_solid_43 (fun σ2 H locs e_σ2 hw => ?_)
    replace h := q_let_at e_σ2 h
    refine lv_lload hx hb dX8_solid_46 (lv_at hl 0 rfl) ?_
    refine lv_aload_n hx hb dX8_solid_48 rfl (lv_at hl 1 rfl) ?_
    refine gt_X8_0 C0 hw xF_0 iX8_solid_X8 (by decide +kernel) dX8_solid_49 ?_
    refine gt_X2_1 C0 hw xF_1 iX8_solid_X2 (by decide +kernel) dX8_solid_52 ?_
    refine lv_lxor hx hb dX8_solid_55 ?_
    obtain ⟨o3, hco3, h⟩ := q_bind h
    refine q_calli hw (va_runS (As := [.long ((σ.2 1 1) ^^^ (σ2.2 1 1))]) (rest := []) C0 (kJ13_bitCount_95d88 hco3 _) (va_cwS 1 hts gX8_solid_J13_bitCount_95d88 rfl rfl rfl eJ13_bitCount_95d88 ⟨(Nat.le_of_ble_eq_true rfl), (Nat.le_of_ble_eq_true rfl)⟩) ⟨q_blind, q_pre hw⟩ rfl rfl hl.1 rfl (lv_room (Nat.le_of_ble_eq_true rfl)) dX8_solid_56 ⟨Nat.zero_le _, Nat.zero_le _⟩) (fun H locs hw => ?_)
    exact q_iret h C0 hr hlk hw dX8_solid_59
  · replace h := q_f h c1
    refine lv_lload hx hb dX8_solid_17 (lv_at hl 0 rfl) ?_
    refine lv_lload_n hx hb dX8_solid_19 rfl (lv_at hl 2 rfl) ?_
    refine lv_aload_n hx hb dX8_solid_20 rfl (lv_at hl 1 rfl) ?_
    refine gt_X8_0 C0 hw xF_0 iX8_solid_X8 (by decide +kernel) dX8_solid_21 ?_
    refine gt_X2_0 C0 hw xF_1 iX8_solid_X2 (by decide +kernel) dX8_solid_24 ?_
    refine gt_X0_2 C0 hw xF_2 iX8_solid_X0 (by decide +kernel) dX8_solid_27 ?_
    refine lv_land hx hb dX8_solid_30 ?_
    refine lv_lor hx hb dX8_solid_31 ?_
    refine lv_goto (tgt := 43) hx hb dX8_solid_32 (by decide) ?_
    refine pt_X2_1 C0 hw xF_1 iX8_solid_X2 (by decide +kernel) dX8_solid_43 (fun σ4 H locs e_σ4 hw => ?_)
    replace h := q_let_at e_σ4 h
    refine lv_lload hx hb dX8_solid_46 (lv_at hl 0 rfl) ?_
    refine lv_aload_n hx hb dX8_solid_48 rfl (lv_at hl 1 rfl) ?_
    refine gt_X8_0 C0 hw xF_0 iX8_solid_X8 (by decide +kernel) dX8_solid_49 ?_
    refine gt_X2_1 C0 hw xF_1 iX8_solid_X2 (by decide +kernel) dX8_solid_52 ?_
    refine lv_lxor hx hb dX8_solid_55 ?_
    obtain ⟨o5, hco5, h⟩ := q_bind h
    refine q_calli hw (va_runS (As := [.long ((σ.2 1 1) ^^^ (σ4.2 1 1))]) (rest := []) C0 (kJ13_bitCount_95d88 hco5 _) (va_cwS 1 hts gX8_solid_J13_bitCount_95d88 rfl rfl rfl eJ13_bitCount_95d88 ⟨(Nat.le_of_ble_eq_true rfl), (Nat.le_of_ble_eq_true rfl)⟩) ⟨q_blind, q_pre hw⟩ rfl rfl hl.1 rfl (lv_room (Nat.le_of_ble_eq_true rfl)) dX8_solid_56 ⟨Nat.zero_le _, Nat.zero_le _⟩) (fun H locs hw => ?_)
    exact q_iret h C0 hr hlk hw dX8_solid_59
-- X8_figure figure(I)I
theorem iX8_figure_X0 : ∀ w ∈ wsX00, w ∈ wsX8_figure := by decide +kernel
theorem iX8_figure_X2 : ∀ w ∈ wsX20, w ∈ wsX8_figure := by decide +kernel
theorem iX8_figure_X6 : ∀ w ∈ wsX60, w ∈ wsX8_figure := by decide +kernel
theorem iX8_figure_X8 : ∀ w ∈ wsX80, w ∈ wsX8_figure := by decide +kernel
theorem eX5_notZero : yX5_notZero.cls = RX5 ∧ yX5_notZero.cls ≠ "java/lang/invoke/MethodHandle" ∧ yX5_notZero.cls ≠ "java/lang/invoke/VarHandle" ∧ (parseMethodDescriptor yX5_notZero.desc).map (fun d => d.parameters.length) = some 0 := by decide +kernel
set_option maxHeartbeats 4000000 in
set_option maxRecDepth 100000 in
theorem kX8_figure {p1 : Int32}  {σ : q_M} {out : Int32 × q_M} (h : fX8_figure p1 σ = some out) : q_Mi l (gX D cI cJ cS ad adK adV) yX8_figure wsX8_figure { frames := 2, cells := 0, slots := 0, locals := 41 } [.ref (ad 0), .int p1] σ out := by
  refine q_Mi_of (cc := cX8_figure) (maxL := 3) (ret := (some .int)) (by decide) rfl (Nat.le_of_ble_eq_true rfl) ?_
  intro p e s m below meth c ls C0 hr hlk hl hw
  obtain ⟨hx, hb, hml, hown, hts⟩ := id C0
  replace hl : lv_has ls 3 [(0, .ref (ad 0)), (1, .int p1)] := hl
  unfold fX8_figure at h
  refine lv_aload_n hx hb dX8_figure_0 rfl (lv_at hl 0 rfl) ?_
  refine lv_iload_n hx hb dX8_figure_1 rfl (lv_at hl 1 rfl) ?_
  obtain ⟨o1, hco1, h⟩ := q_bind h
  refine q_calli hw (va_runV (As := [.int p1]) (rest := []) C0 (kX8_rowRefusal hco1 _) (cwV 1 hts gX8_figure_X8_rowRefusal rfl rfl rfl eX8_rowRefusal ⟨(Nat.le_of_ble_eq_true rfl), (Nat.le_of_ble_eq_true rfl)⟩) ⟨q_blind, q_recv hw (xN_0 xF_0) (xE_0 xF_0) rfl, q_pre hw⟩ rfl rfl hl.1 rfl (lv_room (Nat.le_of_ble_eq_true rfl)) dX8_figure_2 ⟨Nat.zero_le _, Nat.zero_le _⟩) (fun H locs hw => ?_)
  refine lv_istore_n (lv' := [(2, .int o1.1), (0, .ref (ad 0)), (1, .int p1)]) hx hb dX8_figure_5 rfl hl (by decide) rfl (fun ls hl => ?_)
  refine lv_iload_n hx hb dX8_figure_6 rfl (lv_at hl 0 rfl) ?_
  refine lv_if_eq (tgt := 16) hx hb dX8_figure_7 (by decide) (fun c2 => ?_) (fun c2 => ?_)
  · replace h := q_t h c2
    refine lv_aload_n hx hb dX8_figure_16 rfl (lv_at hl 1 rfl) ?_
    refine gt_X8_0 C0 hw xF_0 iX8_figure_X8 (by decide +kernel) dX8_figure_17 ?_
    refine lv_aload_n hx hb dX8_figure_20 rfl (lv_at hl 1 rfl) ?_
    refine gt_X8_4 C0 hw xF_0 iX8_figure_X8 (by decide +kernel) dX8_figure_21 ?_
    refine lv_iload_n hx hb dX8_figure_24 rfl (lv_at hl 2 rfl) ?_
    obtain ⟨b3, h⟩ := q_if h
    refine q_aald (t0 := 2) C0 hw (xN_8 xF_22) (xE_8 xF_22) rfl b3 rfl dX8_figure_25 ?_
    refine gt_X6_1 C0 hw (xSh b3) iX8_figure_X6 (by decide +kernel) dX8_figure_26 ?_
    obtain ⟨o4, hco4, h⟩ := q_bind h
    refine q_calll hw (va_runV (As := []) (rest := [.ref (ad 1)]) C0 (kX5_notZero (xD_15_1 (xSh b3)) hco4 _) (cwV 0 hts gX8_figure_X5_notZero rfl rfl rfl eX5_notZero ⟨(Nat.le_of_ble_eq_true rfl), (Nat.le_of_ble_eq_true rfl)⟩) ⟨q_blind, q_recv hw (xN_16 (xD_15_1 (xSh b3))) (xE_16 (xD_15_1 (xSh b3))) rfl, q_pre hw⟩ rfl rfl hl.1 rfl (lv_room (Nat.le_of_ble_eq_true rfl)) dX8_figure_29 ⟨Nat.zero_le _, Nat.zero_le _⟩) (fun H locs hw => ?_)
    refine lv_aload_n hx hb dX8_figure_32 rfl (lv_at hl 1 rfl) ?_
    refine gt_X8_0 C0 hw xF_0 iX8_figure_X8 (by decide +kernel) dX8_figure_33 ?_
    refine gt_X2_0 C0 hw xF_1 iX8_figure_X2 (by decide +kernel) dX8_figure_36 ?_
    refine gt_X0_2 C0 hw xF_2 iX8_figure_X0 (by decide +kernel) dX8_figure_39 ?_
    refine lv_land hx hb dX8_figure_42 ?_
    refine pt_X2_1 C0 hw xF_1 iX8_figure_X2 (by decide +kernel) dX8_figure_43 (fun σ5 H locs e_σ5 hw => ?_)
    replace h := q_let_at e_σ5 h
    refine lv_aload_n hx hb dX8_figure_46 rfl (lv_at hl 1 rfl) ?_
    refine gt_X8_0 C0 hw xF_0 iX8_figure_X8 (by decide +kernel) dX8_figure_47 ?_
    refine gt_X2_1 C0 hw xF_1 iX8_figure_X2 (by decide +kernel) dX8_figure_50 ?_
    obtain ⟨o6, hco6, h⟩ := q_bind h
    refine q_calli hw (va_runS (As := [.long (σ5.2 1 1)]) (rest := []) C0 (kJ13_bitCount_95d88 hco6 _) (va_cwS 1 hts gX8_figure_J13_bitCount_95d88 rfl rfl rfl eJ13_bitCount_95d88 ⟨(Nat.le_of_ble_eq_true rfl), (Nat.le_of_ble_eq_true rfl)⟩) ⟨q_blind, q_pre hw⟩ rfl rfl hl.1 rfl (lv_room (Nat.le_of_ble_eq_true rfl)) dX8_figure_53 ⟨Nat.zero_le _, Nat.zero_le _⟩) (fun H locs hw => ?_)
    exact q_iret h C0 hr hlk hw dX8_figure_56
  · replace h := q_f h c2
    refine lv_aload_n hx hb dX8_figure_10 rfl (lv_at hl 1 rfl) ?_
    refine lv_iload_n hx hb dX8_figure_11 rfl (lv_at hl 0 rfl) ?_
    obtain ⟨o7, hco7, h⟩ := q_bind h
    refine q_calli hw (va_runV (As := [.int o1.1]) (rest := []) C0 (kX8_refuse hco7 _) (cwV 1 hts gX8_figure_X8_refuse rfl rfl rfl eX8_refuse ⟨(Nat.le_of_ble_eq_true rfl), (Nat.le_of_ble_eq_true rfl)⟩) ⟨q_blind, q_recv hw (xN_0 xF_0) (xE_0 xF_0) rfl, q_pre hw⟩ rfl rfl hl.1 rfl (lv_room (Nat.le_of_ble_eq_true rfl)) dX8_figure_12 ⟨Nat.zero_le _, Nat.zero_le _⟩) (fun H locs hw => ?_)
    exact q_iret h C0 hr hlk hw dX8_figure_15
-- X8_piece piece(J)I
theorem iX8_piece_X0 : ∀ w ∈ wsX00, w ∈ wsX8_piece := by decide +kernel
theorem iX8_piece_X2 : ∀ w ∈ wsX20, w ∈ wsX8_piece := by decide +kernel
theorem iX8_piece_X8 : ∀ w ∈ wsX80, w ∈ wsX8_piece := by decide +kernel
set_option maxHeartbeats 4000000 in
set_option maxRecDepth 100000 in
theorem kX8_piece {p1 : Int64}  {σ : q_M} {out : Int32 × q_M} (h : fX8_piece p1 σ = some out) : q_Mi l (gX D cI cJ cS ad adK adV) yX8_piece wsX8_piece { frames := 1, cells := 0, slots := 0, locals := 22 } [.ref (ad 0), .long p1] σ out := by
  refine q_Mi_of (cc := cX8_piece) (maxL := 3) (ret := (some .int)) (by decide) rfl (Nat.le_of_ble_eq_true rfl) ?_
  intro p e s m below meth c ls C0 hr hlk hl hw
  obtain ⟨hx, hb, hml, hown, hts⟩ := id C0
  replace hl : lv_has ls 3 [(0, .ref (ad 0)), (1, .long p1)] := hl
  unfold fX8_piece at h
  refine lv_aload_n hx hb dX8_piece_0 rfl (lv_at hl 0 rfl) ?_
  refine gt_X8_0 C0 hw xF_0 iX8_piece_X8 (by decide +kernel) dX8_piece_1 ?_
  refine gt_X2_2 C0 hw xF_1 iX8_piece_X2 (by decide +kernel) dX8_piece_4 ?_
  refine lv_bipush (v := (8 : Int32)) hx hb dX8_piece_7 (by decide) ?_
  refine lv_icmp_lt (tgt := 19) hx hb dX8_piece_9 (by decide) (fun c1 => ?_) (fun c1 => ?_)
  · replace h := q_t h c1
    refine lv_aload_n hx hb dX8_piece_19 rfl (lv_at hl 0 rfl) ?_
    refine gt_X8_0 C0 hw xF_0 iX8_piece_X8 (by decide +kernel) dX8_piece_20 ?_
    refine lv_lload_n hx hb dX8_piece_23 rfl (lv_at hl 1 rfl) ?_
    refine lv_aload_n hx hb dX8_piece_24 rfl (lv_at hl 0 rfl) ?_
    refine gt_X8_0 C0 hw xF_0 iX8_piece_X8 (by decide +kernel) dX8_piece_25 ?_
    refine gt_X2_0 C0 hw xF_1 iX8_piece_X2 (by decide +kernel) dX8_piece_28 ?_
    refine gt_X0_2 C0 hw xF_2 iX8_piece_X0 (by decide +kernel) dX8_piece_31 ?_
    refine lv_land hx hb dX8_piece_34 ?_
    obtain ⟨o2, hco2, h⟩ := q_bind h
    refine q_callv hw (va_runV (As := [.long (p1 &&& (σ.2 2 2))]) (rest := []) C0 (kX2_addPiece xF_1 hco2 _) (cwV 1 hts gX8_piece_X2_addPiece rfl rfl rfl eX2_addPiece ⟨(Nat.le_of_ble_eq_true rfl), (Nat.le_of_ble_eq_true rfl)⟩) ⟨q_blind, q_recv hw (xN_1 xF_1) (xE_1 xF_1) rfl, q_pre hw⟩ rfl rfl hl.1 rfl (lv_room (Nat.le_of_ble_eq_true rfl)) dX8_piece_35 ⟨Nat.zero_le _, Nat.zero_le _⟩) (fun H locs hw => ?_)
    refine lv_aload_n hx hb dX8_piece_38 rfl (lv_at hl 0 rfl) ?_
    refine gt_X8_0 C0 hw xF_0 iX8_piece_X8 (by decide +kernel) dX8_piece_39 ?_
    refine gt_X2_2 C0 hw xF_1 iX8_piece_X2 (by decide +kernel) dX8_piece_42 ?_
    refine lv_iconst (v := (1 : Int32)) hx hb dX8_piece_45 (by decide) ?_
    refine lv_isub hx hb dX8_piece_46 ?_
    exact q_iret h C0 hr hlk hw dX8_piece_47
  · replace h := q_f h c1
    refine lv_aload_n hx hb dX8_piece_12 rfl (lv_at hl 0 rfl) ?_
    refine lv_bipush (v := (-6 : Int32)) hx hb dX8_piece_13 (by decide) ?_
    obtain ⟨o3, hco3, h⟩ := q_bind h
    refine q_calli hw (va_runV (As := [.int (-6 : Int32)]) (rest := []) C0 (kX8_refuse hco3 _) (cwV 1 hts gX8_piece_X8_refuse rfl rfl rfl eX8_refuse ⟨(Nat.le_of_ble_eq_true rfl), (Nat.le_of_ble_eq_true rfl)⟩) ⟨q_blind, q_recv hw (xN_0 xF_0) (xE_0 xF_0) rfl, q_pre hw⟩ rfl rfl hl.1 rfl (lv_room (Nat.le_of_ble_eq_true rfl)) dX8_piece_15 ⟨Nat.zero_le _, Nat.zero_le _⟩) (fun H locs hw => ?_)
    exact q_iret h C0 hr hlk hw dX8_piece_18
-- X8_isPiece isPiece(I)Z
theorem iX8_isPiece_X2 : ∀ w ∈ wsX20, w ∈ wsX8_isPiece := by decide +kernel
theorem iX8_isPiece_X8 : ∀ w ∈ wsX80, w ∈ wsX8_isPiece := by decide +kernel
set_option maxHeartbeats 4000000 in
set_option maxRecDepth 100000 in
theorem kX8_isPiece {p1 : Int32}  {σ : q_M} {out : Int32 × q_M} (h : fX8_isPiece p1 σ = some out) : q_Mi l (gX D cI cJ cS ad adK adV) yX8_isPiece wsX8_isPiece { frames := 0, cells := 0, slots := 0, locals := 0 } [.ref (ad 0), .int p1] σ out := by
  refine q_Mi_of (cc := cX8_isPiece) (maxL := 2) (ret := (some .boolean)) (by decide) rfl (Nat.le_of_ble_eq_true rfl) ?_
  intro p e s m below meth c ls C0 hr hlk hl hw
  obtain ⟨hx, hb, hml, hown, hts⟩ := id C0
  replace hl : lv_has ls 2 [(0, .ref (ad 0)), (1, .int p1)] := hl
  unfold fX8_isPiece at h
  refine lv_iload_n hx hb dX8_isPiece_0 rfl (lv_at hl 1 rfl) ?_
  refine lv_if_lt (tgt := 19) hx hb dX8_isPiece_1 (by decide) (fun c1 => ?_) (fun c1 => ?_)
  · replace h := q_t h c1
    refine lv_iconst (v := (0 : Int32)) hx hb dX8_isPiece_19 (by decide) ?_
    exact q_zret h C0 hr rfl hlk hw dX8_isPiece_20
  · replace h := q_f h c1
    refine lv_iload_n hx hb dX8_isPiece_4 rfl (lv_at hl 1 rfl) ?_
    refine lv_aload_n hx hb dX8_isPiece_5 rfl (lv_at hl 0 rfl) ?_
    refine gt_X8_0 C0 hw xF_0 iX8_isPiece_X8 (by decide +kernel) dX8_isPiece_6 ?_
    refine gt_X2_2 C0 hw xF_1 iX8_isPiece_X2 (by decide +kernel) dX8_isPiece_9 ?_
    refine lv_icmp_ge (tgt := 19) hx hb dX8_isPiece_12 (by decide) (fun c2 => ?_) (fun c2 => ?_)
    · replace h := q_t h c2
      refine lv_iconst (v := (0 : Int32)) hx hb dX8_isPiece_19 (by decide) ?_
      exact q_zret h C0 hr rfl hlk hw dX8_isPiece_20
    · replace h := q_f h c2
      refine lv_iconst (v := (1 : Int32)) hx hb dX8_isPiece_15 (by decide) ?_
      refine lv_goto (tgt := 20) hx hb dX8_isPiece_16 (by decide) ?_
      exact q_zret h C0 hr rfl hlk hw dX8_isPiece_20
-- X8_onPieceRefusal onPieceRefusal(I)I
theorem iX8_onPieceRefusal_X8 : ∀ w ∈ wsX80, w ∈ wsX8_onPieceRefusal := by decide +kernel
theorem eX8_isPiece : yX8_isPiece.cls = RX8 ∧ yX8_isPiece.cls ≠ "java/lang/invoke/MethodHandle" ∧ yX8_isPiece.cls ≠ "java/lang/invoke/VarHandle" ∧ (parseMethodDescriptor yX8_isPiece.desc).map (fun d => d.parameters.length) = some 1 := by decide +kernel
set_option maxHeartbeats 4000000 in
set_option maxRecDepth 100000 in
theorem kX8_onPieceRefusal {p1 : Int32}  {σ : q_M} {out : Int32 × q_M} (h : fX8_onPieceRefusal p1 σ = some out) : q_Mi l (gX D cI cJ cS ad adK adV) yX8_onPieceRefusal wsX8_onPieceRefusal { frames := 1, cells := 0, slots := 0, locals := 21 } [.ref (ad 0), .int p1] σ out := by
  refine q_Mi_of (cc := cX8_onPieceRefusal) (maxL := 2) (ret := (some .int)) (by decide) rfl (Nat.le_of_ble_eq_true rfl) ?_
  intro p e s m below meth c ls C0 hr hlk hl hw
  obtain ⟨hx, hb, hml, hown, hts⟩ := id C0
  replace hl : lv_has ls 2 [(0, .ref (ad 0)), (1, .int p1)] := hl
  unfold fX8_onPieceRefusal at h
  refine lv_aload_n hx hb dX8_onPieceRefusal_0 rfl (lv_at hl 0 rfl) ?_
  refine lv_iload_n hx hb dX8_onPieceRefusal_1 rfl (lv_at hl 1 rfl) ?_
  obtain ⟨o1, hco1, h⟩ := q_bind h
  refine q_calli hw (va_runV (As := [.int p1]) (rest := []) C0 (kX8_isPiece hco1 _) (cwV 1 hts gX8_onPieceRefusal_X8_isPiece rfl rfl rfl eX8_isPiece ⟨(Nat.le_of_ble_eq_true rfl), (Nat.le_of_ble_eq_true rfl)⟩) ⟨q_blind, q_recv hw (xN_0 xF_0) (xE_0 xF_0) rfl, q_pre hw⟩ rfl rfl hl.1 rfl (lv_room (Nat.le_of_ble_eq_true rfl)) dX8_onPieceRefusal_2 ⟨Nat.zero_le _, Nat.zero_le _⟩) (fun H locs hw => ?_)
  refine lv_if_ne (tgt := 11) hx hb dX8_onPieceRefusal_5 (by decide) (fun c2 => ?_) (fun c2 => ?_)
  · replace h := q_f h c2
    refine lv_aload_n hx hb dX8_onPieceRefusal_11 rfl (lv_at hl 0 rfl) ?_
    refine gt_X8_0 C0 hw xF_0 iX8_onPieceRefusal_X8 (by decide +kernel) dX8_onPieceRefusal_12 ?_
    refine lv_iload_n hx hb dX8_onPieceRefusal_15 rfl (lv_at hl 1 rfl) ?_
    obtain ⟨o3, hco3, h⟩ := q_bind h
    refine q_calli hw (va_runV (As := [.int p1]) (rest := []) C0 (kX2_isOff xF_1 hco3 _) (cwV 1 hts gX8_onPieceRefusal_X2_isOff rfl rfl rfl eX2_isOff ⟨(Nat.le_of_ble_eq_true rfl), (Nat.le_of_ble_eq_true rfl)⟩) ⟨q_blind, q_recv hw (xN_1 xF_1) (xE_1 xF_1) rfl, q_pre hw⟩ rfl rfl hl.1 rfl (lv_room (Nat.le_of_ble_eq_true rfl)) dX8_onPieceRefusal_16 ⟨Nat.zero_le _, Nat.zero_le _⟩) (fun H locs hw => ?_)
    refine lv_if_eq (tgt := 27) hx hb dX8_onPieceRefusal_19 (by decide) (fun c4 => ?_) (fun c4 => ?_)
    · replace h := q_t h c4
      refine lv_iconst (v := (0 : Int32)) hx hb dX8_onPieceRefusal_27 (by decide) ?_
      exact q_iret h C0 hr hlk hw dX8_onPieceRefusal_28
    · replace h := q_f h c4
      refine lv_bipush (v := (-5 : Int32)) hx hb dX8_onPieceRefusal_22 (by decide) ?_
      refine lv_goto (tgt := 28) hx hb dX8_onPieceRefusal_24 (by decide) ?_
      exact q_iret h C0 hr hlk hw dX8_onPieceRefusal_28
  · replace h := q_t h c2
    refine lv_bipush (v := (-2 : Int32)) hx hb dX8_onPieceRefusal_8 (by decide) ?_
    exact q_iret h C0 hr hlk hw dX8_onPieceRefusal_10
-- X8_alter alter(IJ)I
theorem iX8_alter_X0 : ∀ w ∈ wsX00, w ∈ wsX8_alter := by decide +kernel
theorem iX8_alter_X2 : ∀ w ∈ wsX20, w ∈ wsX8_alter := by decide +kernel
theorem iX8_alter_X8 : ∀ w ∈ wsX80, w ∈ wsX8_alter := by decide +kernel
theorem eX8_onPieceRefusal : yX8_onPieceRefusal.cls = RX8 ∧ yX8_onPieceRefusal.cls ≠ "java/lang/invoke/MethodHandle" ∧ yX8_onPieceRefusal.cls ≠ "java/lang/invoke/VarHandle" ∧ (parseMethodDescriptor yX8_onPieceRefusal.desc).map (fun d => d.parameters.length) = some 1 := by decide +kernel
set_option maxHeartbeats 4000000 in
set_option maxRecDepth 100000 in
theorem kX8_alter {p1 : Int32} {p2 : Int64}  {σ : q_M} {out : Int32 × q_M} (h : fX8_alter p1 p2 σ = some out) : q_Mi l (gX D cI cJ cS ad adK adV) yX8_alter wsX8_alter { frames := 2, cells := 0, slots := 0, locals := 42 } [.ref (ad 0), .int p1, .long p2] σ out := by
  refine q_Mi_of (cc := cX8_alter) (maxL := 6) (ret := (some .int)) (by decide) rfl (Nat.le_of_ble_eq_true rfl) ?_
  intro p e s m below meth c ls C0 hr hlk hl hw
  obtain ⟨hx, hb, hml, hown, hts⟩ := id C0
  replace hl : lv_has ls 6 [(0, .ref (ad 0)), (1, .int p1), (2, .long p2)] := hl
  unfold fX8_alter at h
  refine lv_aload_n hx hb dX8_alter_0 rfl (lv_at hl 0 rfl) ?_
  refine lv_iload_n hx hb dX8_alter_1 rfl (lv_at hl 1 rfl) ?_
  obtain ⟨o1, hco1, h⟩ := q_bind h
  refine q_calli hw (va_runV (As := [.int p1]) (rest := []) C0 (kX8_onPieceRefusal hco1 _) (cwV 1 hts gX8_alter_X8_onPieceRefusal rfl rfl rfl eX8_onPieceRefusal ⟨(Nat.le_of_ble_eq_true rfl), (Nat.le_of_ble_eq_true rfl)⟩) ⟨q_blind, q_recv hw (xN_0 xF_0) (xE_0 xF_0) rfl, q_pre hw⟩ rfl rfl hl.1 rfl (lv_room (Nat.le_of_ble_eq_true rfl)) dX8_alter_2 ⟨Nat.zero_le _, Nat.zero_le _⟩) (fun H locs hw => ?_)
  refine lv_istore (lv' := [(4, .int o1.1), (0, .ref (ad 0)), (1, .int p1), (2, .long p2)]) hx hb dX8_alter_5 hl (by decide) rfl (fun ls hl => ?_)
  refine lv_iload hx hb dX8_alter_7 (lv_at hl 0 rfl) ?_
  refine lv_if_eq (tgt := 19) hx hb dX8_alter_9 (by decide) (fun c2 => ?_) (fun c2 => ?_)
  · replace h := q_t h c2
    refine lv_aload_n hx hb dX8_alter_19 rfl (lv_at hl 1 rfl) ?_
    refine gt_X8_0 C0 hw xF_0 iX8_alter_X8 (by decide +kernel) dX8_alter_20 ?_
    refine gt_X2_6 C0 hw xF_1 iX8_alter_X2 (by decide +kernel) dX8_alter_23 ?_
    refine lv_iload_n hx hb dX8_alter_26 rfl (lv_at hl 2 rfl) ?_
    obtain ⟨b3, h⟩ := q_if h
    refine q_lald (t0 := 1) C0 hw (xN_6 xF_6) (xE_6 xF_6) rfl b3 dX8_alter_27 ?_
    obtain ⟨o4, hco4, h⟩ := q_bind h
    refine q_calli hw (va_runS (As := [.long (o1.2.2 6 p1.toNatClampNeg)]) (rest := []) C0 (kJ13_bitCount_95d88 hco4 _) (va_cwS 1 hts gX8_alter_J13_bitCount_95d88 rfl rfl rfl eJ13_bitCount_95d88 ⟨(Nat.le_of_ble_eq_true rfl), (Nat.le_of_ble_eq_true rfl)⟩) ⟨q_blind, q_pre hw⟩ rfl rfl hl.1 rfl (lv_room (Nat.le_of_ble_eq_true rfl)) dX8_alter_28 ⟨Nat.zero_le _, Nat.zero_le _⟩) (fun H locs hw => ?_)
    refine lv_istore (lv' := [(5, .int o4.1), (4, .int o1.1), (0, .ref (ad 0)), (1, .int p1), (2, .long p2)]) hx hb dX8_alter_31 hl (by decide) rfl (fun ls hl => ?_)
    refine lv_aload_n hx hb dX8_alter_33 rfl (lv_at hl 2 rfl) ?_
    refine gt_X8_0 C0 hw xF_0 iX8_alter_X8 (by decide +kernel) dX8_alter_34 ?_
    refine gt_X2_6 C0 hw xF_1 iX8_alter_X2 (by decide +kernel) dX8_alter_37 ?_
    refine lv_iload_n hx hb dX8_alter_40 rfl (lv_at hl 3 rfl) ?_
    refine lv_lload_n hx hb dX8_alter_41 rfl (lv_at hl 4 rfl) ?_
    refine lv_aload_n hx hb dX8_alter_42 rfl (lv_at hl 2 rfl) ?_
    refine gt_X8_0 C0 hw xF_0 iX8_alter_X8 (by decide +kernel) dX8_alter_43 ?_
    refine gt_X2_0 C0 hw xF_1 iX8_alter_X2 (by decide +kernel) dX8_alter_46 ?_
    refine gt_X0_2 C0 hw xF_2 iX8_alter_X0 (by decide +kernel) dX8_alter_49 ?_
    refine lv_land hx hb dX8_alter_52 ?_
    obtain ⟨b5, h⟩ := q_if h
    refine q_last (t0 := 1) C0 hw (xN_6 xF_6) (xE_6 xF_6) rfl b5 dX8_alter_53 (fun σ6 H locs e_σ6 hw => ?_)
    replace h := q_let_at e_σ6 h
    refine lv_iload hx hb dX8_alter_54 (lv_at hl 0 rfl) ?_
    exact q_iret h C0 hr hlk hw dX8_alter_56
  · replace h := q_f h c2
    refine lv_aload_n hx hb dX8_alter_12 rfl (lv_at hl 1 rfl) ?_
    refine lv_iload hx hb dX8_alter_13 (lv_at hl 0 rfl) ?_
    obtain ⟨o7, hco7, h⟩ := q_bind h
    refine q_calli hw (va_runV (As := [.int o1.1]) (rest := []) C0 (kX8_refuse hco7 _) (cwV 1 hts gX8_alter_X8_refuse rfl rfl rfl eX8_refuse ⟨(Nat.le_of_ble_eq_true rfl), (Nat.le_of_ble_eq_true rfl)⟩) ⟨q_blind, q_recv hw (xN_0 xF_0) (xE_0 xF_0) rfl, q_pre hw⟩ rfl rfl hl.1 rfl (lv_room (Nat.le_of_ble_eq_true rfl)) dX8_alter_15 ⟨Nat.zero_le _, Nat.zero_le _⟩) (fun H locs hw => ?_)
    exact q_iret h C0 hr hlk hw dX8_alter_18
-- X8_askHeavy askHeavy(I)I
theorem iX8_askHeavy_X2 : ∀ w ∈ wsX20, w ∈ wsX8_askHeavy := by decide +kernel
theorem iX8_askHeavy_X8 : ∀ w ∈ wsX80, w ∈ wsX8_askHeavy := by decide +kernel
set_option maxHeartbeats 4000000 in
set_option maxRecDepth 100000 in
theorem kX8_askHeavy {p1 : Int32}  {σ : q_M} {out : Int32 × q_M} (h : fX8_askHeavy p1 σ = some out) : q_Mi l (gX D cI cJ cS ad adK adV) yX8_askHeavy wsX8_askHeavy { frames := 1, cells := 0, slots := 0, locals := 22 } [.ref (ad 0), .int p1] σ out := by
  refine q_Mi_of (cc := cX8_askHeavy) (maxL := 3) (ret := (some .int)) (by decide) rfl (Nat.le_of_ble_eq_true rfl) ?_
  intro p e s m below meth c ls C0 hr hlk hl hw
  obtain ⟨hx, hb, hml, hown, hts⟩ := id C0
  replace hl : lv_has ls 3 [(0, .ref (ad 0)), (1, .int p1)] := hl
  unfold fX8_askHeavy at h
  refine lv_iload_n hx hb dX8_askHeavy_0 rfl (lv_at hl 1 rfl) ?_
  refine lv_iconst (v := (1 : Int32)) hx hb dX8_askHeavy_1 (by decide) ?_
  refine lv_icmp_lt (tgt := 11) hx hb dX8_askHeavy_2 (by decide) (fun c1 => ?_) (fun c1 => ?_)
  · replace h := q_t h c1
    refine lv_aload_n hx hb dX8_askHeavy_11 rfl (lv_at hl 0 rfl) ?_
    refine lv_bipush (v := (-2 : Int32)) hx hb dX8_askHeavy_12 (by decide) ?_
    obtain ⟨o2, hco2, h⟩ := q_bind h
    refine q_calli hw (va_runV (As := [.int (-2 : Int32)]) (rest := []) C0 (kX8_refuse hco2 _) (cwV 1 hts gX8_askHeavy_X8_refuse rfl rfl rfl eX8_refuse ⟨(Nat.le_of_ble_eq_true rfl), (Nat.le_of_ble_eq_true rfl)⟩) ⟨q_blind, q_recv hw (xN_0 xF_0) (xE_0 xF_0) rfl, q_pre hw⟩ rfl rfl hl.1 rfl (lv_room (Nat.le_of_ble_eq_true rfl)) dX8_askHeavy_14 ⟨Nat.zero_le _, Nat.zero_le _⟩) (fun H locs hw => ?_)
    exact q_iret h C0 hr hlk hw dX8_askHeavy_17
  · replace h := q_f h c1
    refine lv_iload_n hx hb dX8_askHeavy_5 rfl (lv_at hl 1 rfl) ?_
    refine lv_bipush (v := (64 : Int32)) hx hb dX8_askHeavy_6 (by decide) ?_
    refine lv_icmp_le (tgt := 18) hx hb dX8_askHeavy_8 (by decide) (fun c3 => ?_) (fun c3 => ?_)
    · replace h := q_t h c3
      refine lv_aload_n hx hb dX8_askHeavy_18 rfl (lv_at hl 0 rfl) ?_
      refine gt_X8_0 C0 hw xF_0 iX8_askHeavy_X8 (by decide +kernel) dX8_askHeavy_19 ?_
      refine gt_X2_4 C0 hw xF_1 iX8_askHeavy_X2 (by decide +kernel) dX8_askHeavy_22 ?_
      refine lv_istore_n (lv' := [(2, .int (σ.1 1 4)), (0, .ref (ad 0)), (1, .int p1)]) hx hb dX8_askHeavy_25 rfl hl (by decide) rfl (fun ls hl => ?_)
      refine lv_aload_n hx hb dX8_askHeavy_26 rfl (lv_at hl 1 rfl) ?_
      refine gt_X8_0 C0 hw xF_0 iX8_askHeavy_X8 (by decide +kernel) dX8_askHeavy_27 ?_
      refine lv_iload_n hx hb dX8_askHeavy_30 rfl (lv_at hl 2 rfl) ?_
      refine pt_X2_4 C0 hw xF_1 iX8_askHeavy_X2 (by decide +kernel) dX8_askHeavy_31 (fun σ4 H locs e_σ4 hw => ?_)
      replace h := q_let_at e_σ4 h
      refine lv_iload_n hx hb dX8_askHeavy_34 rfl (lv_at hl 0 rfl) ?_
      exact q_iret h C0 hr hlk hw dX8_askHeavy_35
    · replace h := q_f h c3
      refine lv_aload_n hx hb dX8_askHeavy_11 rfl (lv_at hl 0 rfl) ?_
      refine lv_bipush (v := (-2 : Int32)) hx hb dX8_askHeavy_12 (by decide) ?_
      obtain ⟨o5, hco5, h⟩ := q_bind h
      refine q_calli hw (va_runV (As := [.int (-2 : Int32)]) (rest := []) C0 (kX8_refuse hco5 _) (cwV 1 hts gX8_askHeavy_X8_refuse rfl rfl rfl eX8_refuse ⟨(Nat.le_of_ble_eq_true rfl), (Nat.le_of_ble_eq_true rfl)⟩) ⟨q_blind, q_recv hw (xN_0 xF_0) (xE_0 xF_0) rfl, q_pre hw⟩ rfl rfl hl.1 rfl (lv_room (Nat.le_of_ble_eq_true rfl)) dX8_askHeavy_14 ⟨Nat.zero_le _, Nat.zero_le _⟩) (fun H locs hw => ?_)
      exact q_iret h C0 hr hlk hw dX8_askHeavy_17
-- X8_askShows askShows(II)I
theorem iX8_askShows_X0 : ∀ w ∈ wsX00, w ∈ wsX8_askShows := by decide +kernel
theorem iX8_askShows_X2 : ∀ w ∈ wsX20, w ∈ wsX8_askShows := by decide +kernel
theorem iX8_askShows_X8 : ∀ w ∈ wsX80, w ∈ wsX8_askShows := by decide +kernel
theorem eX2_showsOf : yX2_showsOf.cls = RX2 ∧ yX2_showsOf.cls ≠ "java/lang/invoke/MethodHandle" ∧ yX2_showsOf.cls ≠ "java/lang/invoke/VarHandle" ∧ (parseMethodDescriptor yX2_showsOf.desc).map (fun d => d.parameters.length) = some 1 := by decide +kernel
set_option maxHeartbeats 4000000 in
set_option maxRecDepth 100000 in
theorem kX8_askShows {p1 : Int32} {p2 : Int32}  {σ : q_M} {out : Int32 × q_M} (h : fX8_askShows p1 p2 σ = some out) : q_Mi l (gX D cI cJ cS ad adK adV) yX8_askShows wsX8_askShows { frames := 3, cells := 0, slots := 0, locals := 66 } [.ref (ad 0), .int p1, .int p2] σ out := by
  refine q_Mi_of (cc := cX8_askShows) (maxL := 4) (ret := (some .int)) (by decide) rfl (Nat.le_of_ble_eq_true rfl) ?_
  intro p e s m below meth c ls C0 hr hlk hl hw
  obtain ⟨hx, hb, hml, hown, hts⟩ := id C0
  replace hl : lv_has ls 4 [(0, .ref (ad 0)), (1, .int p1), (2, .int p2)] := hl
  unfold fX8_askShows at h
  refine lv_iload_n hx hb dX8_askShows_0 rfl (lv_at hl 1 rfl) ?_
  refine lv_if_lt (tgt := 28) hx hb dX8_askShows_1 (by decide) (fun c1 => ?_) (fun c1 => ?_)
  · replace h := q_t h c1
    refine lv_aload_n hx hb dX8_askShows_28 rfl (lv_at hl 0 rfl) ?_
    refine lv_bipush (v := (-2 : Int32)) hx hb dX8_askShows_29 (by decide) ?_
    obtain ⟨o2, hco2, h⟩ := q_bind h
    refine q_calli hw (va_runV (As := [.int (-2 : Int32)]) (rest := []) C0 (kX8_refuse hco2 _) (cwV 1 hts gX8_askShows_X8_refuse rfl rfl rfl eX8_refuse ⟨(Nat.le_of_ble_eq_true rfl), (Nat.le_of_ble_eq_true rfl)⟩) ⟨q_blind, q_recv hw (xN_0 xF_0) (xE_0 xF_0) rfl, q_pre hw⟩ rfl rfl hl.1 rfl (lv_room (Nat.le_of_ble_eq_true rfl)) dX8_askShows_31 ⟨Nat.zero_le _, Nat.zero_le _⟩) (fun H locs hw => ?_)
    exact q_iret h C0 hr hlk hw dX8_askShows_34
  · replace h := q_f h c1
    refine lv_iload_n hx hb dX8_askShows_4 rfl (lv_at hl 1 rfl) ?_
    refine lv_aload_n hx hb dX8_askShows_5 rfl (lv_at hl 0 rfl) ?_
    refine gt_X8_0 C0 hw xF_0 iX8_askShows_X8 (by decide +kernel) dX8_askShows_6 ?_
    refine gt_X2_0 C0 hw xF_1 iX8_askShows_X2 (by decide +kernel) dX8_askShows_9 ?_
    refine gt_X0_1 C0 hw xF_2 iX8_askShows_X0 (by decide +kernel) dX8_askShows_12 ?_
    refine lv_icmp_ge (tgt := 28) hx hb dX8_askShows_15 (by decide) (fun c3 => ?_) (fun c3 => ?_)
    · replace h := q_t h c3
      refine lv_aload_n hx hb dX8_askShows_28 rfl (lv_at hl 0 rfl) ?_
      refine lv_bipush (v := (-2 : Int32)) hx hb dX8_askShows_29 (by decide) ?_
      obtain ⟨o4, hco4, h⟩ := q_bind h
      refine q_calli hw (va_runV (As := [.int (-2 : Int32)]) (rest := []) C0 (kX8_refuse hco4 _) (cwV 1 hts gX8_askShows_X8_refuse rfl rfl rfl eX8_refuse ⟨(Nat.le_of_ble_eq_true rfl), (Nat.le_of_ble_eq_true rfl)⟩) ⟨q_blind, q_recv hw (xN_0 xF_0) (xE_0 xF_0) rfl, q_pre hw⟩ rfl rfl hl.1 rfl (lv_room (Nat.le_of_ble_eq_true rfl)) dX8_askShows_31 ⟨Nat.zero_le _, Nat.zero_le _⟩) (fun H locs hw => ?_)
      exact q_iret h C0 hr hlk hw dX8_askShows_34
    · replace h := q_f h c3
      refine lv_iload_n hx hb dX8_askShows_18 rfl (lv_at hl 2 rfl) ?_
      refine lv_if_lt (tgt := 28) hx hb dX8_askShows_19 (by decide) (fun c5 => ?_) (fun c5 => ?_)
      · replace h := q_t h c5
        refine lv_aload_n hx hb dX8_askShows_28 rfl (lv_at hl 0 rfl) ?_
        refine lv_bipush (v := (-2 : Int32)) hx hb dX8_askShows_29 (by decide) ?_
        obtain ⟨o6, hco6, h⟩ := q_bind h
        refine q_calli hw (va_runV (As := [.int (-2 : Int32)]) (rest := []) C0 (kX8_refuse hco6 _) (cwV 1 hts gX8_askShows_X8_refuse rfl rfl rfl eX8_refuse ⟨(Nat.le_of_ble_eq_true rfl), (Nat.le_of_ble_eq_true rfl)⟩) ⟨q_blind, q_recv hw (xN_0 xF_0) (xE_0 xF_0) rfl, q_pre hw⟩ rfl rfl hl.1 rfl (lv_room (Nat.le_of_ble_eq_true rfl)) dX8_askShows_31 ⟨Nat.zero_le _, Nat.zero_le _⟩) (fun H locs hw => ?_)
        exact q_iret h C0 hr hlk hw dX8_askShows_34
      · replace h := q_f h c5
        refine lv_iload_n hx hb dX8_askShows_22 rfl (lv_at hl 2 rfl) ?_
        refine lv_bipush (v := (9 : Int32)) hx hb dX8_askShows_23 (by decide) ?_
        refine lv_icmp_le (tgt := 35) hx hb dX8_askShows_25 (by decide) (fun c7 => ?_) (fun c7 => ?_)
        · replace h := q_t h c7
          refine lv_aload_n hx hb dX8_askShows_35 rfl (lv_at hl 0 rfl) ?_
          refine gt_X8_0 C0 hw xF_0 iX8_askShows_X8 (by decide +kernel) dX8_askShows_36 ?_
          refine lv_iload_n hx hb dX8_askShows_39 rfl (lv_at hl 1 rfl) ?_
          obtain ⟨o8, hco8, h⟩ := q_bind h
          refine q_calli hw (va_runV (As := [.int p1]) (rest := []) C0 (kX2_showsOf xF_1 hco8 _) (cwV 1 hts gX8_askShows_X2_showsOf rfl rfl rfl eX2_showsOf ⟨(Nat.le_of_ble_eq_true rfl), (Nat.le_of_ble_eq_true rfl)⟩) ⟨q_blind, q_recv hw (xN_1 xF_1) (xE_1 xF_1) rfl, q_pre hw⟩ rfl rfl hl.1 rfl (lv_room (Nat.le_of_ble_eq_true rfl)) dX8_askShows_40 ⟨Nat.zero_le _, Nat.zero_le _⟩) (fun H locs hw => ?_)
          refine lv_istore_n (lv' := [(3, .int o8.1), (0, .ref (ad 0)), (1, .int p1), (2, .int p2)]) hx hb dX8_askShows_43 rfl hl (by decide) rfl (fun ls hl => ?_)
          refine lv_aload_n hx hb dX8_askShows_44 rfl (lv_at hl 1 rfl) ?_
          refine gt_X8_0 C0 hw xF_0 iX8_askShows_X8 (by decide +kernel) dX8_askShows_45 ?_
          refine lv_iload_n hx hb dX8_askShows_48 rfl (lv_at hl 2 rfl) ?_
          refine lv_iload_n hx hb dX8_askShows_49 rfl (lv_at hl 3 rfl) ?_
          obtain ⟨o9, hco9, h⟩ := q_bind h
          refine q_callv hw (va_runV (As := [.int p1, .int p2]) (rest := []) C0 (kX2_putShows xF_1 hco9 _) (cwV 2 hts gX8_askShows_X2_putShows rfl rfl rfl eX2_putShows ⟨(Nat.le_of_ble_eq_true rfl), (Nat.le_of_ble_eq_true rfl)⟩) ⟨q_blind, q_recv hw (xN_1 xF_1) (xE_1 xF_1) rfl, q_pre hw⟩ rfl rfl hl.1 rfl (lv_room (Nat.le_of_ble_eq_true rfl)) dX8_askShows_50 ⟨Nat.zero_le _, Nat.zero_le _⟩) (fun H locs hw => ?_)
          refine lv_iload_n hx hb dX8_askShows_53 rfl (lv_at hl 0 rfl) ?_
          exact q_iret h C0 hr hlk hw dX8_askShows_54
        · replace h := q_f h c7
          refine lv_aload_n hx hb dX8_askShows_28 rfl (lv_at hl 0 rfl) ?_
          refine lv_bipush (v := (-2 : Int32)) hx hb dX8_askShows_29 (by decide) ?_
          obtain ⟨o10, hco10, h⟩ := q_bind h
          refine q_calli hw (va_runV (As := [.int (-2 : Int32)]) (rest := []) C0 (kX8_refuse hco10 _) (cwV 1 hts gX8_askShows_X8_refuse rfl rfl rfl eX8_refuse ⟨(Nat.le_of_ble_eq_true rfl), (Nat.le_of_ble_eq_true rfl)⟩) ⟨q_blind, q_recv hw (xN_0 xF_0) (xE_0 xF_0) rfl, q_pre hw⟩ rfl rfl hl.1 rfl (lv_room (Nat.le_of_ble_eq_true rfl)) dX8_askShows_31 ⟨Nat.zero_le _, Nat.zero_le _⟩) (fun H locs hw => ?_)
          exact q_iret h C0 hr hlk hw dX8_askShows_34
-- X8_askWear askWear(I)I
theorem iX8_askWear_X2 : ∀ w ∈ wsX20, w ∈ wsX8_askWear := by decide +kernel
theorem iX8_askWear_X8 : ∀ w ∈ wsX80, w ∈ wsX8_askWear := by decide +kernel
set_option maxHeartbeats 4000000 in
set_option maxRecDepth 100000 in
theorem kX8_askWear {p1 : Int32}  {σ : q_M} {out : Int32 × q_M} (h : fX8_askWear p1 σ = some out) : q_Mi l (gX D cI cJ cS ad adK adV) yX8_askWear wsX8_askWear { frames := 1, cells := 0, slots := 0, locals := 22 } [.ref (ad 0), .int p1] σ out := by
  refine q_Mi_of (cc := cX8_askWear) (maxL := 3) (ret := (some .int)) (by decide) rfl (Nat.le_of_ble_eq_true rfl) ?_
  intro p e s m below meth c ls C0 hr hlk hl hw
  obtain ⟨hx, hb, hml, hown, hts⟩ := id C0
  replace hl : lv_has ls 3 [(0, .ref (ad 0)), (1, .int p1)] := hl
  unfold fX8_askWear at h
  refine lv_iload_n hx hb dX8_askWear_0 rfl (lv_at hl 1 rfl) ?_
  refine lv_iconst (v := (1 : Int32)) hx hb dX8_askWear_1 (by decide) ?_
  refine lv_icmp_lt (tgt := 12) hx hb dX8_askWear_2 (by decide) (fun c1 => ?_) (fun c1 => ?_)
  · replace h := q_t h c1
    refine lv_aload_n hx hb dX8_askWear_12 rfl (lv_at hl 0 rfl) ?_
    refine lv_bipush (v := (-2 : Int32)) hx hb dX8_askWear_13 (by decide) ?_
    obtain ⟨o2, hco2, h⟩ := q_bind h
    refine q_calli hw (va_runV (As := [.int (-2 : Int32)]) (rest := []) C0 (kX8_refuse hco2 _) (cwV 1 hts gX8_askWear_X8_refuse rfl rfl rfl eX8_refuse ⟨(Nat.le_of_ble_eq_true rfl), (Nat.le_of_ble_eq_true rfl)⟩) ⟨q_blind, q_recv hw (xN_0 xF_0) (xE_0 xF_0) rfl, q_pre hw⟩ rfl rfl hl.1 rfl (lv_room (Nat.le_of_ble_eq_true rfl)) dX8_askWear_15 ⟨Nat.zero_le _, Nat.zero_le _⟩) (fun H locs hw => ?_)
    exact q_iret h C0 hr hlk hw dX8_askWear_18
  · replace h := q_f h c1
    refine lv_iload_n hx hb dX8_askWear_5 rfl (lv_at hl 1 rfl) ?_
    refine lv_sipush (v := (999 : Int32)) hx hb dX8_askWear_6 (by decide) ?_
    refine lv_icmp_le (tgt := 19) hx hb dX8_askWear_9 (by decide) (fun c3 => ?_) (fun c3 => ?_)
    · replace h := q_t h c3
      refine lv_aload_n hx hb dX8_askWear_19 rfl (lv_at hl 0 rfl) ?_
      refine gt_X8_0 C0 hw xF_0 iX8_askWear_X8 (by decide +kernel) dX8_askWear_20 ?_
      refine gt_X2_5 C0 hw xF_1 iX8_askWear_X2 (by decide +kernel) dX8_askWear_23 ?_
      refine lv_istore_n (lv' := [(2, .int (σ.1 1 5)), (0, .ref (ad 0)), (1, .int p1)]) hx hb dX8_askWear_26 rfl hl (by decide) rfl (fun ls hl => ?_)
      refine lv_aload_n hx hb dX8_askWear_27 rfl (lv_at hl 1 rfl) ?_
      refine gt_X8_0 C0 hw xF_0 iX8_askWear_X8 (by decide +kernel) dX8_askWear_28 ?_
      refine lv_iload_n hx hb dX8_askWear_31 rfl (lv_at hl 2 rfl) ?_
      refine pt_X2_5 C0 hw xF_1 iX8_askWear_X2 (by decide +kernel) dX8_askWear_32 (fun σ4 H locs e_σ4 hw => ?_)
      replace h := q_let_at e_σ4 h
      refine lv_iload_n hx hb dX8_askWear_35 rfl (lv_at hl 0 rfl) ?_
      exact q_iret h C0 hr hlk hw dX8_askWear_36
    · replace h := q_f h c3
      refine lv_aload_n hx hb dX8_askWear_12 rfl (lv_at hl 0 rfl) ?_
      refine lv_bipush (v := (-2 : Int32)) hx hb dX8_askWear_13 (by decide) ?_
      obtain ⟨o5, hco5, h⟩ := q_bind h
      refine q_calli hw (va_runV (As := [.int (-2 : Int32)]) (rest := []) C0 (kX8_refuse hco5 _) (cwV 1 hts gX8_askWear_X8_refuse rfl rfl rfl eX8_refuse ⟨(Nat.le_of_ble_eq_true rfl), (Nat.le_of_ble_eq_true rfl)⟩) ⟨q_blind, q_recv hw (xN_0 xF_0) (xE_0 xF_0) rfl, q_pre hw⟩ rfl rfl hl.1 rfl (lv_room (Nat.le_of_ble_eq_true rfl)) dX8_askWear_15 ⟨Nat.zero_le _, Nat.zero_le _⟩) (fun H locs hw => ?_)
      exact q_iret h C0 hr hlk hw dX8_askWear_18
-- X8_ask ask(III)I
theorem eX8_askHeavy : yX8_askHeavy.cls = RX8 ∧ yX8_askHeavy.cls ≠ "java/lang/invoke/MethodHandle" ∧ yX8_askHeavy.cls ≠ "java/lang/invoke/VarHandle" ∧ (parseMethodDescriptor yX8_askHeavy.desc).map (fun d => d.parameters.length) = some 1 := by decide +kernel
theorem eX8_askShows : yX8_askShows.cls = RX8 ∧ yX8_askShows.cls ≠ "java/lang/invoke/MethodHandle" ∧ yX8_askShows.cls ≠ "java/lang/invoke/VarHandle" ∧ (parseMethodDescriptor yX8_askShows.desc).map (fun d => d.parameters.length) = some 2 := by decide +kernel
theorem eX8_askWear : yX8_askWear.cls = RX8 ∧ yX8_askWear.cls ≠ "java/lang/invoke/MethodHandle" ∧ yX8_askWear.cls ≠ "java/lang/invoke/VarHandle" ∧ (parseMethodDescriptor yX8_askWear.desc).map (fun d => d.parameters.length) = some 1 := by decide +kernel
set_option maxHeartbeats 4000000 in
set_option maxRecDepth 100000 in
theorem kX8_ask {p1 : Int32} {p2 : Int32} {p3 : Int32}  {σ : q_M} {out : Int32 × q_M} (h : fX8_ask p1 p2 p3 σ = some out) : q_Mi l (gX D cI cJ cS ad adK adV) yX8_ask wsX8_ask { frames := 4, cells := 0, slots := 0, locals := 89 } [.ref (ad 0), .int p1, .int p2, .int p3] σ out := by
  refine q_Mi_of (cc := cX8_ask) (maxL := 4) (ret := (some .int)) (by decide) rfl (Nat.le_of_ble_eq_true rfl) ?_
  intro p e s m below meth c ls C0 hr hlk hl hw
  obtain ⟨hx, hb, hml, hown, hts⟩ := id C0
  replace hl : lv_has ls 4 [(0, .ref (ad 0)), (1, .int p1), (2, .int p2), (3, .int p3)] := hl
  unfold fX8_ask at h
  refine lv_iload_n hx hb dX8_ask_0 rfl (lv_at hl 1 rfl) ?_
  by_cases c1 : p1 = (0 : Int32)
  · replace h := q_t h c1
    refine q_tabIn (off := 27) (tgt := 28) C0 c1 dX8_ask_1 (by decide) (by decide) rfl (by decide) ?_
    refine lv_aload_n hx hb dX8_ask_28 rfl (lv_at hl 0 rfl) ?_
    refine lv_iload_n hx hb dX8_ask_29 rfl (lv_at hl 2 rfl) ?_
    refine lv_iload_n hx hb dX8_ask_30 rfl (lv_at hl 3 rfl) ?_
    obtain ⟨o2, hco2, h⟩ := q_bind h
    refine q_calli hw (va_runV (As := [.int p2, .int p3]) (rest := []) C0 (kX8_askShows hco2 _) (cwV 2 hts gX8_ask_X8_askShows rfl rfl rfl eX8_askShows ⟨(Nat.le_of_ble_eq_true rfl), (Nat.le_of_ble_eq_true rfl)⟩) ⟨q_blind, q_recv hw (xN_0 xF_0) (xE_0 xF_0) rfl, q_pre hw⟩ rfl rfl hl.1 rfl (lv_room (Nat.le_of_ble_eq_true rfl)) dX8_ask_31 ⟨Nat.zero_le _, Nat.zero_le _⟩) (fun H locs hw => ?_)
    exact q_iret h C0 hr hlk hw dX8_ask_34
  · replace h := q_f h c1
    by_cases c3 : p1 = (1 : Int32)
    · replace h := q_t h c3
      refine q_tabIn (off := 34) (tgt := 35) C0 c3 dX8_ask_1 (by decide) (by decide) rfl (by decide) ?_
      refine lv_aload_n hx hb dX8_ask_35 rfl (lv_at hl 0 rfl) ?_
      refine lv_iload_n hx hb dX8_ask_36 rfl (lv_at hl 3 rfl) ?_
      obtain ⟨o4, hco4, h⟩ := q_bind h
      refine q_calli hw (va_runV (As := [.int p3]) (rest := []) C0 (kX8_askHeavy hco4 _) (cwV 1 hts gX8_ask_X8_askHeavy rfl rfl rfl eX8_askHeavy ⟨(Nat.le_of_ble_eq_true rfl), (Nat.le_of_ble_eq_true rfl)⟩) ⟨q_blind, q_recv hw (xN_0 xF_0) (xE_0 xF_0) rfl, q_pre hw⟩ rfl rfl hl.1 rfl (lv_room (Nat.le_of_ble_eq_true rfl)) dX8_ask_37 ⟨Nat.zero_le _, Nat.zero_le _⟩) (fun H locs hw => ?_)
      exact q_iret h C0 hr hlk hw dX8_ask_40
    · replace h := q_f h c3
      by_cases c5 : p1 = (2 : Int32)
      · replace h := q_t h c5
        refine q_tabIn (off := 40) (tgt := 41) C0 c5 dX8_ask_1 (by decide) (by decide) rfl (by decide) ?_
        refine lv_aload_n hx hb dX8_ask_41 rfl (lv_at hl 0 rfl) ?_
        refine lv_iload_n hx hb dX8_ask_42 rfl (lv_at hl 3 rfl) ?_
        obtain ⟨o6, hco6, h⟩ := q_bind h
        refine q_calli hw (va_runV (As := [.int p3]) (rest := []) C0 (kX8_askWear hco6 _) (cwV 1 hts gX8_ask_X8_askWear rfl rfl rfl eX8_askWear ⟨(Nat.le_of_ble_eq_true rfl), (Nat.le_of_ble_eq_true rfl)⟩) ⟨q_blind, q_recv hw (xN_0 xF_0) (xE_0 xF_0) rfl, q_pre hw⟩ rfl rfl hl.1 rfl (lv_room (Nat.le_of_ble_eq_true rfl)) dX8_ask_43 ⟨Nat.zero_le _, Nat.zero_le _⟩) (fun H locs hw => ?_)
        exact q_iret h C0 hr hlk hw dX8_ask_46
      · replace h := q_f h c5
        have n_c1 := q_neI (n := 0) c1 (by decide)
        have n_c3 := q_neI (n := 1) c3 (by decide)
        have n_c5 := q_neI (n := 2) c5 (by decide)
        refine lv_tableOut (tgt := 47) hx hb dX8_ask_1 (by omega) (by decide) ?_
        refine lv_aload_n hx hb dX8_ask_47 rfl (lv_at hl 0 rfl) ?_
        refine lv_bipush (v := (-2 : Int32)) hx hb dX8_ask_48 (by decide) ?_
        obtain ⟨o7, hco7, h⟩ := q_bind h
        refine q_calli hw (va_runV (As := [.int (-2 : Int32)]) (rest := []) C0 (kX8_refuse hco7 _) (cwV 1 hts gX8_ask_X8_refuse rfl rfl rfl eX8_refuse ⟨(Nat.le_of_ble_eq_true rfl), (Nat.le_of_ble_eq_true rfl)⟩) ⟨q_blind, q_recv hw (xN_0 xF_0) (xE_0 xF_0) rfl, q_pre hw⟩ rfl rfl hl.1 rfl (lv_room (Nat.le_of_ble_eq_true rfl)) dX8_ask_50 ⟨Nat.zero_le _, Nat.zero_le _⟩) (fun H locs hw => ?_)
        exact q_iret h C0 hr hlk hw dX8_ask_53
-- X8_feed feed(II)I
theorem iX8_feed_X7 : ∀ w ∈ wsX70, w ∈ wsX8_feed := by decide +kernel
theorem iX8_feed_X8 : ∀ w ∈ wsX80, w ∈ wsX8_feed := by decide +kernel
theorem eX7_add : yX7_add.cls = RX7 ∧ yX7_add.cls ≠ "java/lang/invoke/MethodHandle" ∧ yX7_add.cls ≠ "java/lang/invoke/VarHandle" ∧ (parseMethodDescriptor yX7_add.desc).map (fun d => d.parameters.length) = some 1 := by decide +kernel
set_option maxHeartbeats 4000000 in
set_option maxRecDepth 100000 in
theorem tX8_feed_c43 {p1 : Int32} {p2 : Int32}  (C0 : CallFix p m c cX8_feed 4 s args wsX8_feed RX8) (hr : meth.sig.returnType = (some .int)) (hlk : meth.locks = false) {out : Int32 × q_M}  : ∀ n : Nat, ∀ (v3 : Int32) (σ : q_M) (H : Heap) (locs : List Loc) (ls : Array Slot), q_H (gX D cI cJ cS ad adK adV) (q_A (gX D cI cJ cS ad adK adV) s.heap.size) s σ H locs → lv_has ls 4 [(0, .ref (ad 0)), (1, .int p1), (3, .int v3)] → fX8_feed_c43 p1 p2 n v3 σ = some out → W p l e { frames := 1, cells := 0, slots := 0, locals := 22 } s m args below meth c H locs 0 0 (MQ below (q_Ri (gX D cI cJ cS ad adK adV) (q_A (gX D cI cJ cS ad adK adV) s.heap.size) out) args s 0 0 (q_A (gX D cI cJ cS ad adK adV) s.heap.size)) (F0 m 43 ls []) := by
  obtain ⟨hx, hb, hml, hown, hts⟩ := id C0
  intro n
  induction n with
  | zero =>
    intro v3 σ H locs ls  hw hl h
    cases (show (none : Option (Int32 × q_M)) = some out from h)
  | succ n hrec43 =>
    intro v3 σ H locs ls  hw hl h
    replace h : fX8_feed_c43b p1 p2 (fX8_feed_c43 p1 p2 n) v3 σ = some out := h
    unfold fX8_feed_c43b at h
    refine lv_iload_n hx hb dX8_feed_43 rfl (lv_at hl 2 rfl) ?_
    refine lv_if_lt (tgt := 70) hx hb dX8_feed_44 (by decide) (fun c1 => ?_) (fun c1 => ?_)
    · replace h := q_t h c1
      refine lv_aload_n hx hb dX8_feed_70 rfl (lv_at hl 0 rfl) ?_
      refine gt_X8_5 C0 hw xF_0 iX8_feed_X8 (by decide +kernel) dX8_feed_71 ?_
      refine gt_X7_0 C0 hw xF_23 iX8_feed_X7 (by decide +kernel) dX8_feed_74 ?_
      exact q_iret h C0 hr hlk hw dX8_feed_77
    · replace h := q_f h c1
      refine lv_aload_n hx hb dX8_feed_47 rfl (lv_at hl 0 rfl) ?_
      refine gt_X8_5 C0 hw xF_0 iX8_feed_X8 (by decide +kernel) dX8_feed_48 ?_
      refine lv_iload_n hx hb dX8_feed_51 rfl (lv_at hl 1 rfl) ?_
      refine lv_bipush (v := (8 : Int32)) hx hb dX8_feed_52 (by decide) ?_
      refine lv_iload_n hx hb dX8_feed_54 rfl (lv_at hl 2 rfl) ?_
      refine lv_imul hx hb dX8_feed_55 ?_
      refine lv_iushr (v := (q_su p1 ((8 : Int32) * v3))) hx hb dX8_feed_56 rfl ?_
      refine lv_sipush (v := (255 : Int32)) hx hb dX8_feed_57 (by decide) ?_
      refine lv_iand hx hb dX8_feed_60 ?_
      obtain ⟨o2, hco2, h⟩ := q_bind h
      refine q_callv hw (va_runV (As := [.int ((q_su p1 ((8 : Int32) * v3)) &&& (255 : Int32))]) (rest := []) C0 (kX7_add hco2 _) (cwV 1 hts gX8_feed_X7_add rfl rfl rfl eX7_add ⟨(Nat.le_of_ble_eq_true rfl), (Nat.le_of_ble_eq_true rfl)⟩) ⟨q_blind, q_recv hw (xN_9 xF_23) (xE_9 xF_23) rfl, q_pre hw⟩ rfl rfl hl.1 rfl (lv_room (Nat.le_of_ble_eq_true rfl)) dX8_feed_61 ⟨Nat.zero_le _, Nat.zero_le _⟩) (fun H locs hw => ?_)
      refine lv_iinc (v := (v3 + (-1 : Int32))) (lv' := [(3, .int (v3 + (-1 : Int32))), (0, .ref (ad 0)), (1, .int p1)]) hx hb dX8_feed_64 hl (k := 2) rfl rfl (by decide) rfl (fun ls hl => ?_)
      refine lv_goto (tgt := 43) hx hb dX8_feed_67 (by decide) ?_
      exact hrec43 (v3 + (-1 : Int32)) o2 _ _ _ hw (lv_sub hl [1, 2, 0] rfl) h
set_option maxHeartbeats 4000000 in
set_option maxRecDepth 100000 in
theorem kX8_feed {p1 : Int32} {p2 : Int32}  {σ : q_M} {out : Int32 × q_M} (h : fX8_feed p1 p2 σ = some out) : q_Mi l (gX D cI cJ cS ad adK adV) yX8_feed wsX8_feed { frames := 1, cells := 0, slots := 0, locals := 22 } [.ref (ad 0), .int p1, .int p2] σ out := by
  refine q_Mi_of (cc := cX8_feed) (maxL := 4) (ret := (some .int)) (by decide) rfl (Nat.le_of_ble_eq_true rfl) ?_
  intro p e s m below meth c ls C0 hr hlk hl hw
  obtain ⟨hx, hb, hml, hown, hts⟩ := id C0
  replace hl : lv_has ls 4 [(0, .ref (ad 0)), (1, .int p1), (2, .int p2)] := hl
  unfold fX8_feed at h
  refine lv_iload_n hx hb dX8_feed_0 rfl (lv_at hl 2 rfl) ?_
  refine lv_iconst (v := (1 : Int32)) hx hb dX8_feed_1 (by decide) ?_
  refine lv_icmp_lt (tgt := 10) hx hb dX8_feed_2 (by decide) (fun c1 => ?_) (fun c1 => ?_)
  · replace h := q_t h c1
    refine lv_aload_n hx hb dX8_feed_10 rfl (lv_at hl 0 rfl) ?_
    refine lv_bipush (v := (-2 : Int32)) hx hb dX8_feed_11 (by decide) ?_
    obtain ⟨o2, hco2, h⟩ := q_bind h
    refine q_calli hw (va_runV (As := [.int (-2 : Int32)]) (rest := []) C0 (kX8_refuse hco2 _) (cwV 1 hts gX8_feed_X8_refuse rfl rfl rfl eX8_refuse ⟨(Nat.le_of_ble_eq_true rfl), (Nat.le_of_ble_eq_true rfl)⟩) ⟨q_blind, q_recv hw (xN_0 xF_0) (xE_0 xF_0) rfl, q_pre hw⟩ rfl rfl hl.1 rfl (lv_room (Nat.le_of_ble_eq_true rfl)) dX8_feed_13 ⟨Nat.zero_le _, Nat.zero_le _⟩) (fun H locs hw => ?_)
    exact q_iret h C0 hr hlk hw dX8_feed_16
  · replace h := q_f h c1
    refine lv_iload_n hx hb dX8_feed_5 rfl (lv_at hl 2 rfl) ?_
    refine lv_iconst (v := (4 : Int32)) hx hb dX8_feed_6 (by decide) ?_
    refine lv_icmp_le (tgt := 17) hx hb dX8_feed_7 (by decide) (fun c3 => ?_) (fun c3 => ?_)
    · replace h := q_t h c3
      refine lv_aload_n hx hb dX8_feed_17 rfl (lv_at hl 0 rfl) ?_
      refine gt_X8_5 C0 hw xF_0 iX8_feed_X8 (by decide +kernel) dX8_feed_18 ?_
      refine gt_X7_0 C0 hw xF_23 iX8_feed_X7 (by decide +kernel) dX8_feed_21 ?_
      refine lv_iload_n hx hb dX8_feed_24 rfl (lv_at hl 2 rfl) ?_
      refine lv_iadd hx hb dX8_feed_25 ?_
      refine lv_sipush (v := (250 : Int32)) hx hb dX8_feed_26 (by decide) ?_
      refine lv_icmp_le (tgt := 39) hx hb dX8_feed_29 (by decide) (fun c4 => ?_) (fun c4 => ?_)
      · replace h := q_t h c4
        refine lv_iload_n hx hb dX8_feed_39 rfl (lv_at hl 2 rfl) ?_
        refine lv_iconst (v := (1 : Int32)) hx hb dX8_feed_40 (by decide) ?_
        refine lv_isub hx hb dX8_feed_41 ?_
        refine lv_istore_n (lv' := [(3, .int (p2 - (1 : Int32))), (0, .ref (ad 0)), (1, .int p1), (2, .int p2)]) hx hb dX8_feed_42 rfl hl (by decide) rfl (fun ls hl => ?_)
        exact tX8_feed_c43 C0 hr hlk q_FU (p2 - (1 : Int32)) σ _ _ _ hw (lv_sub hl [1, 2, 0] rfl) h
      · replace h := q_f h c4
        refine lv_aload_n hx hb dX8_feed_32 rfl (lv_at hl 0 rfl) ?_
        refine lv_bipush (v := (-6 : Int32)) hx hb dX8_feed_33 (by decide) ?_
        obtain ⟨o5, hco5, h⟩ := q_bind h
        refine q_calli hw (va_runV (As := [.int (-6 : Int32)]) (rest := []) C0 (kX8_refuse hco5 _) (cwV 1 hts gX8_feed_X8_refuse rfl rfl rfl eX8_refuse ⟨(Nat.le_of_ble_eq_true rfl), (Nat.le_of_ble_eq_true rfl)⟩) ⟨q_blind, q_recv hw (xN_0 xF_0) (xE_0 xF_0) rfl, q_pre hw⟩ rfl rfl hl.1 rfl (lv_room (Nat.le_of_ble_eq_true rfl)) dX8_feed_35 ⟨Nat.zero_le _, Nat.zero_le _⟩) (fun H locs hw => ?_)
        exact q_iret h C0 hr hlk hw dX8_feed_38
    · replace h := q_f h c3
      refine lv_aload_n hx hb dX8_feed_10 rfl (lv_at hl 0 rfl) ?_
      refine lv_bipush (v := (-2 : Int32)) hx hb dX8_feed_11 (by decide) ?_
      obtain ⟨o6, hco6, h⟩ := q_bind h
      refine q_calli hw (va_runV (As := [.int (-2 : Int32)]) (rest := []) C0 (kX8_refuse hco6 _) (cwV 1 hts gX8_feed_X8_refuse rfl rfl rfl eX8_refuse ⟨(Nat.le_of_ble_eq_true rfl), (Nat.le_of_ble_eq_true rfl)⟩) ⟨q_blind, q_recv hw (xN_0 xF_0) (xE_0 xF_0) rfl, q_pre hw⟩ rfl rfl hl.1 rfl (lv_room (Nat.le_of_ble_eq_true rfl)) dX8_feed_13 ⟨Nat.zero_le _, Nat.zero_le _⟩) (fun H locs hw => ?_)
      exact q_iret h C0 hr hlk hw dX8_feed_16
-- X8_wipe wipe()I
theorem iX8_wipe_X7 : ∀ w ∈ wsX70, w ∈ wsX8_wipe := by decide +kernel
theorem iX8_wipe_X8 : ∀ w ∈ wsX80, w ∈ wsX8_wipe := by decide +kernel
set_option maxHeartbeats 4000000 in
set_option maxRecDepth 100000 in
theorem kX8_wipe   {σ : q_M} {out : Int32 × q_M} (h : fX8_wipe  σ = some out) : q_Mi l (gX D cI cJ cS ad adK adV) yX8_wipe wsX8_wipe { frames := 0, cells := 0, slots := 0, locals := 0 } [.ref (ad 0)] σ out := by
  refine q_Mi_of (cc := cX8_wipe) (maxL := 2) (ret := (some .int)) (by decide) rfl (Nat.le_of_ble_eq_true rfl) ?_
  intro p e s m below meth c ls C0 hr hlk hl hw
  obtain ⟨hx, hb, hml, hown, hts⟩ := id C0
  replace hl : lv_has ls 2 [(0, .ref (ad 0))] := hl
  unfold fX8_wipe at h
  refine lv_aload_n hx hb dX8_wipe_0 rfl (lv_at hl 0 rfl) ?_
  refine gt_X8_5 C0 hw xF_0 iX8_wipe_X8 (by decide +kernel) dX8_wipe_1 ?_
  refine gt_X7_0 C0 hw xF_23 iX8_wipe_X7 (by decide +kernel) dX8_wipe_4 ?_
  refine lv_istore_n (lv' := [(1, .int (σ.1 23 0)), (0, .ref (ad 0))]) hx hb dX8_wipe_7 rfl hl (by decide) rfl (fun ls hl => ?_)
  refine lv_aload_n hx hb dX8_wipe_8 rfl (lv_at hl 1 rfl) ?_
  refine gt_X8_5 C0 hw xF_0 iX8_wipe_X8 (by decide +kernel) dX8_wipe_9 ?_
  refine lv_iconst (v := (0 : Int32)) hx hb dX8_wipe_12 (by decide) ?_
  refine pt_X7_0 C0 hw xF_23 iX8_wipe_X7 (by decide +kernel) dX8_wipe_13 (fun σ1 H locs e_σ1 hw => ?_)
  replace h := q_let_at e_σ1 h
  refine lv_iload_n hx hb dX8_wipe_16 rfl (lv_at hl 0 rfl) ?_
  exact q_iret h C0 hr hlk hw dX8_wipe_17
-- X8_read read()I
theorem iX8_read_X7 : ∀ w ∈ wsX70, w ∈ wsX8_read := by decide +kernel
theorem iX8_read_X8 : ∀ w ∈ wsX80, w ∈ wsX8_read := by decide +kernel
theorem eX2_takeFrom : yX2_takeFrom.cls = RX2 ∧ yX2_takeFrom.cls ≠ "java/lang/invoke/MethodHandle" ∧ yX2_takeFrom.cls ≠ "java/lang/invoke/VarHandle" ∧ (parseMethodDescriptor yX2_takeFrom.desc).map (fun d => d.parameters.length) = some 1 := by decide +kernel
theorem eX4_readAll : yX4_readAll.cls ≠ "java/lang/invoke/MethodHandle" ∧ yX4_readAll.cls ≠ "java/lang/invoke/VarHandle" ∧ (parseMethodDescriptor yX4_readAll.desc).map (fun d => d.parameters.length) = some 2 := by decide +kernel
set_option maxHeartbeats 4000000 in
set_option maxRecDepth 100000 in
theorem kX8_read   {σ : q_M} {out : Int32 × q_M} (h : fX8_read  σ = some out) : q_Mi l (gX D cI cJ cS ad adK adV) yX8_read wsX8_read { frames := 8, cells := 0, slots := 0, locals := 177 } [.ref (ad 0)] σ out := by
  refine q_Mi_of (cc := cX8_read) (maxL := 3) (ret := (some .int)) (by decide) rfl (Nat.le_of_ble_eq_true rfl) ?_
  intro p e s m below meth c ls C0 hr hlk hl hw
  obtain ⟨hx, hb, hml, hown, hts⟩ := id C0
  replace hl : lv_has ls 3 [(0, .ref (ad 0))] := hl
  unfold fX8_read at h
  refine lv_aload_n hx hb dX8_read_0 rfl (lv_at hl 0 rfl) ?_
  refine gt_X8_2 C0 hw xF_0 iX8_read_X8 (by decide +kernel) dX8_read_1 ?_
  refine lv_aload_n hx hb dX8_read_4 rfl (lv_at hl 0 rfl) ?_
  refine gt_X8_0 C0 hw xF_0 iX8_read_X8 (by decide +kernel) dX8_read_5 ?_
  obtain ⟨o1, hco1, h⟩ := q_bind h
  refine q_callv hw (va_runV (As := [.ref (ad 1)]) (rest := []) C0 (kX2_takeFrom xF_15 xF_1 hco1 _) (cwV 1 hts gX8_read_X2_takeFrom rfl rfl rfl eX2_takeFrom ⟨(Nat.le_of_ble_eq_true rfl), (Nat.le_of_ble_eq_true rfl)⟩) ⟨q_blind, q_recv hw (xN_1 xF_15) (xE_1 xF_15) rfl, q_pre hw⟩ rfl rfl hl.1 rfl (lv_room (Nat.le_of_ble_eq_true rfl)) dX8_read_8 ⟨Nat.zero_le _, Nat.zero_le _⟩) (fun H locs hw => ?_)
  refine lv_aload_n hx hb dX8_read_11 rfl (lv_at hl 0 rfl) ?_
  refine gt_X8_5 C0 hw xF_0 iX8_read_X8 (by decide +kernel) dX8_read_12 ?_
  refine lv_aload_n hx hb dX8_read_15 rfl (lv_at hl 0 rfl) ?_
  refine gt_X8_2 C0 hw xF_0 iX8_read_X8 (by decide +kernel) dX8_read_16 ?_
  obtain ⟨o2, hco2, h⟩ := q_bind h
  refine q_calli hw (va_runS (As := [.ref (ad 23), .ref (ad 15)]) (rest := []) C0 (kX4_readAll xF_15 hco2 _) (va_cwS 2 hts gX8_read_X4_readAll rfl rfl rfl eX4_readAll ⟨(Nat.le_of_ble_eq_true rfl), (Nat.le_of_ble_eq_true rfl)⟩) ⟨q_blind, q_pre hw⟩ rfl rfl hl.1 rfl (lv_room (Nat.le_of_ble_eq_true rfl)) dX8_read_19 ⟨Nat.zero_le _, Nat.zero_le _⟩) (fun H locs hw => ?_)
  refine lv_istore_n (lv' := [(1, .int o2.1), (0, .ref (ad 0))]) hx hb dX8_read_22 rfl hl (by decide) rfl (fun ls hl => ?_)
  refine lv_aload_n hx hb dX8_read_23 rfl (lv_at hl 1 rfl) ?_
  refine gt_X8_5 C0 hw xF_0 iX8_read_X8 (by decide +kernel) dX8_read_24 ?_
  refine gt_X7_1 C0 hw xF_23 iX8_read_X7 (by decide +kernel) dX8_read_27 ?_
  refine lv_istore_n (lv' := [(2, .int (o2.2.1 23 1)), (1, .int o2.1), (0, .ref (ad 0))]) hx hb dX8_read_30 rfl hl (by decide) rfl (fun ls hl => ?_)
  refine lv_aload_n hx hb dX8_read_31 rfl (lv_at hl 2 rfl) ?_
  refine gt_X8_5 C0 hw xF_0 iX8_read_X8 (by decide +kernel) dX8_read_32 ?_
  refine lv_iconst (v := (0 : Int32)) hx hb dX8_read_35 (by decide) ?_
  refine pt_X7_0 C0 hw xF_23 iX8_read_X7 (by decide +kernel) dX8_read_36 (fun σ3 H locs e_σ3 hw => ?_)
  replace h := q_let_at e_σ3 h
  refine lv_iload_n hx hb dX8_read_39 rfl (lv_at hl 1 rfl) ?_
  refine lv_iconst (v := (-1 : Int32)) hx hb dX8_read_40 (by decide) ?_
  refine lv_icmp_ne (tgt := 56) hx hb dX8_read_41 (by decide) (fun c4 => ?_) (fun c4 => ?_)
  · replace h := q_f h c4
    refine lv_aload_n hx hb dX8_read_56 rfl (lv_at hl 2 rfl) ?_
    refine gt_X8_0 C0 hw xF_0 iX8_read_X8 (by decide +kernel) dX8_read_57 ?_
    refine lv_aload_n hx hb dX8_read_60 rfl (lv_at hl 2 rfl) ?_
    refine gt_X8_2 C0 hw xF_0 iX8_read_X8 (by decide +kernel) dX8_read_61 ?_
    obtain ⟨o5, hco5, h⟩ := q_bind h
    refine q_callv hw (va_runV (As := [.ref (ad 15)]) (rest := []) C0 (kX2_takeFrom xF_1 xF_15 hco5 _) (cwV 1 hts gX8_read_X2_takeFrom rfl rfl rfl eX2_takeFrom ⟨(Nat.le_of_ble_eq_true rfl), (Nat.le_of_ble_eq_true rfl)⟩) ⟨q_blind, q_recv hw (xN_1 xF_1) (xE_1 xF_1) rfl, q_pre hw⟩ rfl rfl hl.1 rfl (lv_room (Nat.le_of_ble_eq_true rfl)) dX8_read_64 ⟨Nat.zero_le _, Nat.zero_le _⟩) (fun H locs hw => ?_)
    refine lv_iload_n hx hb dX8_read_67 rfl (lv_at hl 1 rfl) ?_
    exact q_iret h C0 hr hlk hw dX8_read_68
  · replace h := q_t h c4
    refine lv_aload_n hx hb dX8_read_44 rfl (lv_at hl 2 rfl) ?_
    refine lv_bipush (v := (-2 : Int32)) hx hb dX8_read_45 (by decide) ?_
    obtain ⟨o6, hco6, h⟩ := q_bind h
    refine q_calli hw (va_runV (As := [.int (-2 : Int32)]) (rest := []) C0 (kX8_refuse hco6 _) (cwV 1 hts gX8_read_X8_refuse rfl rfl rfl eX8_refuse ⟨(Nat.le_of_ble_eq_true rfl), (Nat.le_of_ble_eq_true rfl)⟩) ⟨q_blind, q_recv hw (xN_0 xF_0) (xE_0 xF_0) rfl, q_pre hw⟩ rfl rfl hl.1 rfl (lv_room (Nat.le_of_ble_eq_true rfl)) dX8_read_47 ⟨Nat.zero_le _, Nat.zero_le _⟩) (fun H locs hw => ?_)
    refine lv_pop hx hb dX8_read_50 rfl ?_
    refine lv_bipush (v := (-20 : Int32)) hx hb dX8_read_51 (by decide) ?_
    refine lv_iload_n hx hb dX8_read_53 rfl (lv_at hl 0 rfl) ?_
    refine lv_isub hx hb dX8_read_54 ?_
    exact q_iret h C0 hr hlk hw dX8_read_55
-- X8_lookAtFigure lookAtFigure()LMouldThatComesOff$Leaving;
theorem iX8_lookAtFigure_X2 : ∀ w ∈ wsX20, w ∈ wsX8_lookAtFigure := by decide +kernel
theorem iX8_lookAtFigure_X8 : ∀ w ∈ wsX80, w ∈ wsX8_lookAtFigure := by decide +kernel
theorem eX1_look : yX1_look.cls = RX1 ∧ yX1_look.cls ≠ "java/lang/invoke/MethodHandle" ∧ yX1_look.cls ≠ "java/lang/invoke/VarHandle" ∧ (parseMethodDescriptor yX1_look.desc).map (fun d => d.parameters.length) = some 2 := by decide +kernel
set_option maxHeartbeats 4000000 in
set_option maxRecDepth 100000 in
theorem kX8_lookAtFigure   {σ : q_M} {out : q_M} (h : fX8_lookAtFigure  σ = some out) : q_Mr l (gX D cI cJ cS ad adK adV) yX8_lookAtFigure wsX8_lookAtFigure { frames := 3, cells := 0, slots := 0, locals := 78 } [.ref (ad 0)] σ (25, out) := by
  refine q_Mr_of (cc := cX8_lookAtFigure) (maxL := 1) (ret := (some (.object "MouldThatComesOff$Leaving"))) (by decide) rfl (Nat.le_of_ble_eq_true rfl) ?_
  intro p e s m below meth c ls C0 hr hlk hl hw
  obtain ⟨hx, hb, hml, hown, hts⟩ := id C0
  replace hl : lv_has ls 1 [(0, .ref (ad 0))] := hl
  unfold fX8_lookAtFigure at h
  refine lv_aload_n hx hb dX8_lookAtFigure_0 rfl (lv_at hl 0 rfl) ?_
  refine gt_X8_6 C0 hw xF_0 iX8_lookAtFigure_X8 (by decide +kernel) dX8_lookAtFigure_1 ?_
  refine lv_aload_n hx hb dX8_lookAtFigure_4 rfl (lv_at hl 0 rfl) ?_
  refine gt_X8_0 C0 hw xF_0 iX8_lookAtFigure_X8 (by decide +kernel) dX8_lookAtFigure_5 ?_
  refine gt_X2_0 C0 hw xF_1 iX8_lookAtFigure_X2 (by decide +kernel) dX8_lookAtFigure_8 ?_
  refine lv_aload_n hx hb dX8_lookAtFigure_11 rfl (lv_at hl 0 rfl) ?_
  refine gt_X8_0 C0 hw xF_0 iX8_lookAtFigure_X8 (by decide +kernel) dX8_lookAtFigure_12 ?_
  refine gt_X2_1 C0 hw xF_1 iX8_lookAtFigure_X2 (by decide +kernel) dX8_lookAtFigure_15 ?_
  obtain ⟨o1, hco1, h⟩ := q_bind h
  refine q_callv hw (va_runV (As := [.ref (ad 2), .long (σ.2 1 1)]) (rest := []) C0 (kX1_look xF_2 hco1 _) (cwV 2 hts gX8_lookAtFigure_X1_look rfl rfl rfl eX1_look ⟨(Nat.le_of_ble_eq_true rfl), (Nat.le_of_ble_eq_true rfl)⟩) ⟨q_blind, q_recv hw (xN_11 xF_25) (xE_11 xF_25) rfl, q_pre hw⟩ rfl rfl hl.1 rfl (lv_room (Nat.le_of_ble_eq_true rfl)) dX8_lookAtFigure_18 ⟨Nat.zero_le _, Nat.zero_le _⟩) (fun H locs hw => ?_)
  refine lv_aload_n hx hb dX8_lookAtFigure_21 rfl (lv_at hl 0 rfl) ?_
  refine gt_X8_6 C0 hw xF_0 iX8_lookAtFigure_X8 (by decide +kernel) dX8_lookAtFigure_22 ?_
  exact q_aret (k := 25) (congrArg (fun z => some (25, z)) (Option.some.inj h)) C0 hr hlk hw dX8_lookAtFigure_25
-- X8_cubes cubes(I)J
theorem iX8_cubes_X2 : ∀ w ∈ wsX20, w ∈ wsX8_cubes := by decide +kernel
theorem iX8_cubes_X8 : ∀ w ∈ wsX80, w ∈ wsX8_cubes := by decide +kernel
theorem eX1_neverFree : yX1_neverFree.cls = RX1 ∧ yX1_neverFree.cls ≠ "java/lang/invoke/MethodHandle" ∧ yX1_neverFree.cls ≠ "java/lang/invoke/VarHandle" ∧ (parseMethodDescriptor yX1_neverFree.desc).map (fun d => d.parameters.length) = some 0 := by decide +kernel
theorem eX8_lookAtFigure : yX8_lookAtFigure.cls = RX8 ∧ yX8_lookAtFigure.cls ≠ "java/lang/invoke/MethodHandle" ∧ yX8_lookAtFigure.cls ≠ "java/lang/invoke/VarHandle" ∧ (parseMethodDescriptor yX8_lookAtFigure.desc).map (fun d => d.parameters.length) = some 0 := by decide +kernel
set_option maxHeartbeats 4000000 in
set_option maxRecDepth 100000 in
theorem kX8_cubes {p1 : Int32}  {σ : q_M} {out : Int64 × q_M} (h : fX8_cubes p1 σ = some out) : q_Ml l (gX D cI cJ cS ad adK adV) yX8_cubes wsX8_cubes { frames := 4, cells := 0, slots := 0, locals := 98 } [.ref (ad 0), .int p1] σ out := by
  refine q_Ml_of (cc := cX8_cubes) (maxL := 2) (ret := (some .long)) (by decide) rfl (Nat.le_of_ble_eq_true rfl) ?_
  intro p e s m below meth c ls C0 hr hlk hl hw
  obtain ⟨hx, hb, hml, hown, hts⟩ := id C0
  replace hl : lv_has ls 2 [(0, .ref (ad 0)), (1, .int p1)] := hl
  unfold fX8_cubes at h
  refine lv_iload_n hx hb dX8_cubes_0 rfl (lv_at hl 1 rfl) ?_
  by_cases c1 : p1 = (0 : Int32)
  · replace h := q_t h c1
    refine q_tabIn (off := 31) (tgt := 32) C0 c1 dX8_cubes_1 (by decide) (by decide) rfl (by decide) ?_
    refine lv_aload_n hx hb dX8_cubes_32 rfl (lv_at hl 0 rfl) ?_
    refine gt_X8_0 C0 hw xF_0 iX8_cubes_X8 (by decide +kernel) dX8_cubes_33 ?_
    refine gt_X2_1 C0 hw xF_1 iX8_cubes_X2 (by decide +kernel) dX8_cubes_36 ?_
    exact q_lret h C0 hr hlk hw dX8_cubes_39
  · replace h := q_f h c1
    by_cases c2 : p1 = (1 : Int32)
    · replace h := q_t h c2
      refine q_tabIn (off := 39) (tgt := 40) C0 c2 dX8_cubes_1 (by decide) (by decide) rfl (by decide) ?_
      refine lv_aload_n hx hb dX8_cubes_40 rfl (lv_at hl 0 rfl) ?_
      refine gt_X8_0 C0 hw xF_0 iX8_cubes_X8 (by decide +kernel) dX8_cubes_41 ?_
      obtain ⟨o3, hco3, h⟩ := q_bind h
      refine q_calll hw (va_runV (As := []) (rest := []) C0 (kX2_emptyCubes xF_1 hco3 _) (cwV 0 hts gX8_cubes_X2_emptyCubes rfl rfl rfl eX2_emptyCubes ⟨(Nat.le_of_ble_eq_true rfl), (Nat.le_of_ble_eq_true rfl)⟩) ⟨q_blind, q_recv hw (xN_1 xF_1) (xE_1 xF_1) rfl, q_pre hw⟩ rfl rfl hl.1 rfl (lv_room (Nat.le_of_ble_eq_true rfl)) dX8_cubes_44 ⟨Nat.zero_le _, Nat.zero_le _⟩) (fun H locs hw => ?_)
      exact q_lret h C0 hr hlk hw dX8_cubes_47
    · replace h := q_f h c2
      by_cases c4 : p1 = (2 : Int32)
      · replace h := q_t h c4
        refine q_tabIn (off := 47) (tgt := 48) C0 c4 dX8_cubes_1 (by decide) (by decide) rfl (by decide) ?_
        refine lv_aload_n hx hb dX8_cubes_48 rfl (lv_at hl 0 rfl) ?_
        obtain ⟨o5, hco5, h⟩ := q_bind h
        refine q_callr hw (va_runV (As := []) (rest := []) C0 (kX8_lookAtFigure hco5 _) (cwV 0 hts gX8_cubes_X8_lookAtFigure rfl rfl rfl eX8_lookAtFigure ⟨(Nat.le_of_ble_eq_true rfl), (Nat.le_of_ble_eq_true rfl)⟩) ⟨q_blind, q_recv hw (xN_0 xF_0) (xE_0 xF_0) rfl, q_pre hw⟩ rfl rfl hl.1 rfl (lv_room (Nat.le_of_ble_eq_true rfl)) dX8_cubes_49 ⟨Nat.zero_le _, Nat.zero_le _⟩) (fun H locs hw => ?_)
        obtain ⟨o6, hco6, h⟩ := q_bind h
        refine q_calll hw (va_runV (As := []) (rest := []) C0 (kX1_neverFree hco6 _) (cwV 0 hts gX8_cubes_X1_neverFree rfl rfl rfl eX1_neverFree ⟨(Nat.le_of_ble_eq_true rfl), (Nat.le_of_ble_eq_true rfl)⟩) ⟨q_blind, q_recv hw (xN_11 xF_25) (xE_11 xF_25) rfl, q_pre hw⟩ rfl rfl hl.1 rfl (lv_room (Nat.le_of_ble_eq_true rfl)) dX8_cubes_52 ⟨Nat.zero_le _, Nat.zero_le _⟩) (fun H locs hw => ?_)
        exact q_lret h C0 hr hlk hw dX8_cubes_55
      · replace h := q_f h c4
        by_cases c7 : p1 = (3 : Int32)
        · replace h := q_t h c7
          refine q_tabIn (off := 55) (tgt := 56) C0 c7 dX8_cubes_1 (by decide) (by decide) rfl (by decide) ?_
          refine lv_aload_n hx hb dX8_cubes_56 rfl (lv_at hl 0 rfl) ?_
          refine gt_X8_0 C0 hw xF_0 iX8_cubes_X8 (by decide +kernel) dX8_cubes_57 ?_
          refine lv_aload_n hx hb dX8_cubes_60 rfl (lv_at hl 0 rfl) ?_
          refine gt_X8_0 C0 hw xF_0 iX8_cubes_X8 (by decide +kernel) dX8_cubes_61 ?_
          refine gt_X2_3 C0 hw xF_1 iX8_cubes_X2 (by decide +kernel) dX8_cubes_64 ?_
          obtain ⟨o8, hco8, h⟩ := q_bind h
          refine q_calll hw (va_runV (As := [.int (σ.1 1 3)]) (rest := []) C0 (kX2_inPieces xF_1 hco8 _) (cwV 1 hts gX8_cubes_X2_inPieces rfl rfl rfl eX2_inPieces ⟨(Nat.le_of_ble_eq_true rfl), (Nat.le_of_ble_eq_true rfl)⟩) ⟨q_blind, q_recv hw (xN_1 xF_1) (xE_1 xF_1) rfl, q_pre hw⟩ rfl rfl hl.1 rfl (lv_room (Nat.le_of_ble_eq_true rfl)) dX8_cubes_67 ⟨Nat.zero_le _, Nat.zero_le _⟩) (fun H locs hw => ?_)
          exact q_lret h C0 hr hlk hw dX8_cubes_70
        · replace h := q_f h c7
          have n_c1 := q_neI (n := 0) c1 (by decide)
          have n_c2 := q_neI (n := 1) c2 (by decide)
          have n_c4 := q_neI (n := 2) c4 (by decide)
          have n_c7 := q_neI (n := 3) c7 (by decide)
          refine lv_tableOut (tgt := 71) hx hb dX8_cubes_1 (by omega) (by decide) ?_
          refine lv_lconst (v := (0 : Int64)) hx hb dX8_cubes_71 (by decide) ?_
          exact q_lret h C0 hr hlk hw dX8_cubes_72
-- X8_setOf setOf(I)J
theorem iX8_setOf_X2 : ∀ w ∈ wsX20, w ∈ wsX8_setOf := by decide +kernel
theorem iX8_setOf_X8 : ∀ w ∈ wsX80, w ∈ wsX8_setOf := by decide +kernel
set_option maxHeartbeats 4000000 in
set_option maxRecDepth 100000 in
theorem kX8_setOf {p1 : Int32}  {σ : q_M} {out : Int64 × q_M} (h : fX8_setOf p1 σ = some out) : q_Ml l (gX D cI cJ cS ad adK adV) yX8_setOf wsX8_setOf { frames := 1, cells := 0, slots := 0, locals := 21 } [.ref (ad 0), .int p1] σ out := by
  refine q_Ml_of (cc := cX8_setOf) (maxL := 2) (ret := (some .long)) (by decide) rfl (Nat.le_of_ble_eq_true rfl) ?_
  intro p e s m below meth c ls C0 hr hlk hl hw
  obtain ⟨hx, hb, hml, hown, hts⟩ := id C0
  replace hl : lv_has ls 2 [(0, .ref (ad 0)), (1, .int p1)] := hl
  unfold fX8_setOf at h
  refine lv_aload_n hx hb dX8_setOf_0 rfl (lv_at hl 0 rfl) ?_
  refine lv_iload_n hx hb dX8_setOf_1 rfl (lv_at hl 1 rfl) ?_
  obtain ⟨o1, hco1, h⟩ := q_bind h
  refine q_calli hw (va_runV (As := [.int p1]) (rest := []) C0 (kX8_isPiece hco1 _) (cwV 1 hts gX8_setOf_X8_isPiece rfl rfl rfl eX8_isPiece ⟨(Nat.le_of_ble_eq_true rfl), (Nat.le_of_ble_eq_true rfl)⟩) ⟨q_blind, q_recv hw (xN_0 xF_0) (xE_0 xF_0) rfl, q_pre hw⟩ rfl rfl hl.1 rfl (lv_room (Nat.le_of_ble_eq_true rfl)) dX8_setOf_2 ⟨Nat.zero_le _, Nat.zero_le _⟩) (fun H locs hw => ?_)
  refine lv_if_eq (tgt := 20) hx hb dX8_setOf_5 (by decide) (fun c2 => ?_) (fun c2 => ?_)
  · replace h := q_t h c2
    refine lv_lconst (v := (0 : Int64)) hx hb dX8_setOf_20 (by decide) ?_
    exact q_lret h C0 hr hlk hw dX8_setOf_21
  · replace h := q_f h c2
    refine lv_aload_n hx hb dX8_setOf_8 rfl (lv_at hl 0 rfl) ?_
    refine gt_X8_0 C0 hw xF_0 iX8_setOf_X8 (by decide +kernel) dX8_setOf_9 ?_
    refine gt_X2_6 C0 hw xF_1 iX8_setOf_X2 (by decide +kernel) dX8_setOf_12 ?_
    refine lv_iload_n hx hb dX8_setOf_15 rfl (lv_at hl 1 rfl) ?_
    obtain ⟨b3, h⟩ := q_if h
    refine q_lald (t0 := 1) C0 hw (xN_6 xF_6) (xE_6 xF_6) rfl b3 dX8_setOf_16 ?_
    refine lv_goto (tgt := 21) hx hb dX8_setOf_17 (by decide) ?_
    exact q_lret h C0 hr hlk hw dX8_setOf_21
-- X8_whole whole(J)I
theorem iX8_whole_X0 : ∀ w ∈ wsX00, w ∈ wsX8_whole := by decide +kernel
theorem iX8_whole_X2 : ∀ w ∈ wsX20, w ∈ wsX8_whole := by decide +kernel
theorem iX8_whole_X8 : ∀ w ∈ wsX80, w ∈ wsX8_whole := by decide +kernel
set_option maxHeartbeats 4000000 in
set_option maxRecDepth 100000 in
theorem kX8_whole {p1 : Int64}  {σ : q_M} {out : Int32 × q_M} (h : fX8_whole p1 σ = some out) : q_Mi l (gX D cI cJ cS ad adK adV) yX8_whole wsX8_whole { frames := 4, cells := 0, slots := 0, locals := 102 } [.ref (ad 0), .long p1] σ out := by
  refine q_Mi_of (cc := cX8_whole) (maxL := 3) (ret := (some .int)) (by decide) rfl (Nat.le_of_ble_eq_true rfl) ?_
  intro p e s m below meth c ls C0 hr hlk hl hw
  obtain ⟨hx, hb, hml, hown, hts⟩ := id C0
  replace hl : lv_has ls 3 [(0, .ref (ad 0)), (1, .long p1)] := hl
  unfold fX8_whole at h
  refine lv_aload_n hx hb dX8_whole_0 rfl (lv_at hl 0 rfl) ?_
  refine gt_X8_0 C0 hw xF_0 iX8_whole_X8 (by decide +kernel) dX8_whole_1 ?_
  refine gt_X2_0 C0 hw xF_1 iX8_whole_X2 (by decide +kernel) dX8_whole_4 ?_
  refine lv_lload_n hx hb dX8_whole_7 rfl (lv_at hl 1 rfl) ?_
  refine lv_aload_n hx hb dX8_whole_8 rfl (lv_at hl 0 rfl) ?_
  refine gt_X8_0 C0 hw xF_0 iX8_whole_X8 (by decide +kernel) dX8_whole_9 ?_
  refine gt_X2_0 C0 hw xF_1 iX8_whole_X2 (by decide +kernel) dX8_whole_12 ?_
  refine gt_X0_2 C0 hw xF_2 iX8_whole_X0 (by decide +kernel) dX8_whole_15 ?_
  refine lv_land hx hb dX8_whole_18 ?_
  obtain ⟨o1, hco1, h⟩ := q_bind h
  refine q_calli hw (va_runV (As := [.long (p1 &&& (σ.2 2 2))]) (rest := []) C0 (kX0_isOnePart xF_2 hco1 _) (cwV 1 hts gX8_whole_X0_isOnePart rfl rfl rfl eX0_isOnePart ⟨(Nat.le_of_ble_eq_true rfl), (Nat.le_of_ble_eq_true rfl)⟩) ⟨q_blind, q_recv hw (xN_2 xF_2) (xE_2 xF_2) rfl, q_pre hw⟩ rfl rfl hl.1 rfl (lv_room (Nat.le_of_ble_eq_true rfl)) dX8_whole_19 ⟨Nat.zero_le _, Nat.zero_le _⟩) (fun H locs hw => ?_)
  refine lv_if_eq (tgt := 29) hx hb dX8_whole_22 (by decide) (fun c2 => ?_) (fun c2 => ?_)
  · replace h := q_t h c2
    refine lv_iconst (v := (0 : Int32)) hx hb dX8_whole_29 (by decide) ?_
    exact q_iret h C0 hr hlk hw dX8_whole_30
  · replace h := q_f h c2
    refine lv_iconst (v := (1 : Int32)) hx hb dX8_whole_25 (by decide) ?_
    refine lv_goto (tgt := 30) hx hb dX8_whole_26 (by decide) ?_
    exact q_iret h C0 hr hlk hw dX8_whole_30
-- X8_parts parts()I
theorem iX8_parts_X2 : ∀ w ∈ wsX20, w ∈ wsX8_parts := by decide +kernel
theorem iX8_parts_X8 : ∀ w ∈ wsX80, w ∈ wsX8_parts := by decide +kernel
set_option maxHeartbeats 4000000 in
set_option maxRecDepth 100000 in
theorem kX8_parts   {σ : q_M} {out : Int32 × q_M} (h : fX8_parts  σ = some out) : q_Mi l (gX D cI cJ cS ad adK adV) yX8_parts wsX8_parts { frames := 4, cells := 0, slots := 0, locals := 106 } [.ref (ad 0)] σ out := by
  refine q_Mi_of (cc := cX8_parts) (maxL := 1) (ret := (some .int)) (by decide) rfl (Nat.le_of_ble_eq_true rfl) ?_
  intro p e s m below meth c ls C0 hr hlk hl hw
  obtain ⟨hx, hb, hml, hown, hts⟩ := id C0
  replace hl : lv_has ls 1 [(0, .ref (ad 0))] := hl
  unfold fX8_parts at h
  refine lv_aload_n hx hb dX8_parts_0 rfl (lv_at hl 0 rfl) ?_
  refine gt_X8_0 C0 hw xF_0 iX8_parts_X8 (by decide +kernel) dX8_parts_1 ?_
  refine gt_X2_0 C0 hw xF_1 iX8_parts_X2 (by decide +kernel) dX8_parts_4 ?_
  refine lv_aload_n hx hb dX8_parts_7 rfl (lv_at hl 0 rfl) ?_
  refine gt_X8_0 C0 hw xF_0 iX8_parts_X8 (by decide +kernel) dX8_parts_8 ?_
  refine gt_X2_1 C0 hw xF_1 iX8_parts_X2 (by decide +kernel) dX8_parts_11 ?_
  obtain ⟨o1, hco1, h⟩ := q_bind h
  refine q_calli hw (va_runV (As := [.long (σ.2 1 1)]) (rest := []) C0 (kX0_countParts xF_2 hco1 _) (cwV 1 hts gX8_parts_X0_countParts rfl rfl rfl eX0_countParts ⟨(Nat.le_of_ble_eq_true rfl), (Nat.le_of_ble_eq_true rfl)⟩) ⟨q_blind, q_recv hw (xN_2 xF_2) (xE_2 xF_2) rfl, q_pre hw⟩ rfl rfl hl.1 rfl (lv_room (Nat.le_of_ble_eq_true rfl)) dX8_parts_14 ⟨Nat.zero_le _, Nat.zero_le _⟩) (fun H locs hw => ?_)
  exact q_iret h C0 hr hlk hw dX8_parts_17
-- X8_free free(I)I
theorem iX8_free_X0 : ∀ w ∈ wsX00, w ∈ wsX8_free := by decide +kernel
theorem iX8_free_X2 : ∀ w ∈ wsX20, w ∈ wsX8_free := by decide +kernel
theorem iX8_free_X8 : ∀ w ∈ wsX80, w ∈ wsX8_free := by decide +kernel
theorem eX1_waysOf : yX1_waysOf.cls = RX1 ∧ yX1_waysOf.cls ≠ "java/lang/invoke/MethodHandle" ∧ yX1_waysOf.cls ≠ "java/lang/invoke/VarHandle" ∧ (parseMethodDescriptor yX1_waysOf.desc).map (fun d => d.parameters.length) = some 1 := by decide +kernel
set_option maxHeartbeats 4000000 in
set_option maxRecDepth 100000 in
theorem kX8_free {p1 : Int32}  {σ : q_M} {out : Int32 × q_M} (h : fX8_free p1 σ = some out) : q_Mi l (gX D cI cJ cS ad adK adV) yX8_free wsX8_free { frames := 4, cells := 0, slots := 0, locals := 98 } [.ref (ad 0), .int p1] σ out := by
  refine q_Mi_of (cc := cX8_free) (maxL := 2) (ret := (some .int)) (by decide) rfl (Nat.le_of_ble_eq_true rfl) ?_
  intro p e s m below meth c ls C0 hr hlk hl hw
  obtain ⟨hx, hb, hml, hown, hts⟩ := id C0
  replace hl : lv_has ls 2 [(0, .ref (ad 0)), (1, .int p1)] := hl
  unfold fX8_free at h
  refine lv_iload_n hx hb dX8_free_0 rfl (lv_at hl 1 rfl) ?_
  refine lv_if_lt (tgt := 18) hx hb dX8_free_1 (by decide) (fun c1 => ?_) (fun c1 => ?_)
  · replace h := q_t h c1
    refine lv_aload_n hx hb dX8_free_18 rfl (lv_at hl 0 rfl) ?_
    refine lv_bipush (v := (-2 : Int32)) hx hb dX8_free_19 (by decide) ?_
    obtain ⟨o2, hco2, h⟩ := q_bind h
    refine q_calli hw (va_runV (As := [.int (-2 : Int32)]) (rest := []) C0 (kX8_refuse hco2 _) (cwV 1 hts gX8_free_X8_refuse rfl rfl rfl eX8_refuse ⟨(Nat.le_of_ble_eq_true rfl), (Nat.le_of_ble_eq_true rfl)⟩) ⟨q_blind, q_recv hw (xN_0 xF_0) (xE_0 xF_0) rfl, q_pre hw⟩ rfl rfl hl.1 rfl (lv_room (Nat.le_of_ble_eq_true rfl)) dX8_free_21 ⟨Nat.zero_le _, Nat.zero_le _⟩) (fun H locs hw => ?_)
    exact q_iret h C0 hr hlk hw dX8_free_24
  · replace h := q_f h c1
    refine lv_iload_n hx hb dX8_free_4 rfl (lv_at hl 1 rfl) ?_
    refine lv_aload_n hx hb dX8_free_5 rfl (lv_at hl 0 rfl) ?_
    refine gt_X8_0 C0 hw xF_0 iX8_free_X8 (by decide +kernel) dX8_free_6 ?_
    refine gt_X2_0 C0 hw xF_1 iX8_free_X2 (by decide +kernel) dX8_free_9 ?_
    refine gt_X0_1 C0 hw xF_2 iX8_free_X0 (by decide +kernel) dX8_free_12 ?_
    refine lv_icmp_lt (tgt := 25) hx hb dX8_free_15 (by decide) (fun c3 => ?_) (fun c3 => ?_)
    · replace h := q_t h c3
      refine lv_aload_n hx hb dX8_free_25 rfl (lv_at hl 0 rfl) ?_
      refine gt_X8_0 C0 hw xF_0 iX8_free_X8 (by decide +kernel) dX8_free_26 ?_
      refine gt_X2_1 C0 hw xF_1 iX8_free_X2 (by decide +kernel) dX8_free_29 ?_
      refine lv_iload_n hx hb dX8_free_32 rfl (lv_at hl 1 rfl) ?_
      refine lv_lushr (v := (q_ushr (σ.2 1 1) p1)) hx hb dX8_free_33 rfl ?_
      refine lv_lconst (v := (1 : Int64)) hx hb dX8_free_34 (by decide) ?_
      refine lv_land hx hb dX8_free_35 ?_
      refine lv_lconst (v := (0 : Int64)) hx hb dX8_free_36 (by decide) ?_
      refine q_lcmp_eq (tgt := 48) C0 dX8_free_37 dX8_free_38 (by decide) (fun c4 => ?_) (fun c4 => ?_)
      · replace h := q_t h c4
        refine lv_aload_n hx hb dX8_free_48 rfl (lv_at hl 0 rfl) ?_
        obtain ⟨o5, hco5, h⟩ := q_bind h
        refine q_callr hw (va_runV (As := []) (rest := []) C0 (kX8_lookAtFigure hco5 _) (cwV 0 hts gX8_free_X8_lookAtFigure rfl rfl rfl eX8_lookAtFigure ⟨(Nat.le_of_ble_eq_true rfl), (Nat.le_of_ble_eq_true rfl)⟩) ⟨q_blind, q_recv hw (xN_0 xF_0) (xE_0 xF_0) rfl, q_pre hw⟩ rfl rfl hl.1 rfl (lv_room (Nat.le_of_ble_eq_true rfl)) dX8_free_49 ⟨Nat.zero_le _, Nat.zero_le _⟩) (fun H locs hw => ?_)
        refine lv_lconst (v := (1 : Int64)) hx hb dX8_free_52 (by decide) ?_
        refine lv_iload_n hx hb dX8_free_53 rfl (lv_at hl 1 rfl) ?_
        refine lv_lshl (v := (q_shl (1 : Int64) p1)) hx hb dX8_free_54 rfl ?_
        obtain ⟨o6, hco6, h⟩ := q_bind h
        refine q_calli hw (va_runV (As := [.long (q_shl (1 : Int64) p1)]) (rest := []) C0 (kX1_waysOf hco6 _) (cwV 1 hts gX8_free_X1_waysOf rfl rfl rfl eX1_waysOf ⟨(Nat.le_of_ble_eq_true rfl), (Nat.le_of_ble_eq_true rfl)⟩) ⟨q_blind, q_recv hw (xN_11 xF_25) (xE_11 xF_25) rfl, q_pre hw⟩ rfl rfl hl.1 rfl (lv_room (Nat.le_of_ble_eq_true rfl)) dX8_free_55 ⟨Nat.zero_le _, Nat.zero_le _⟩) (fun H locs hw => ?_)
        exact q_iret h C0 hr hlk hw dX8_free_58
      · replace h := q_f h c4
        refine lv_aload_n hx hb dX8_free_41 rfl (lv_at hl 0 rfl) ?_
        refine lv_bipush (v := (-5 : Int32)) hx hb dX8_free_42 (by decide) ?_
        obtain ⟨o7, hco7, h⟩ := q_bind h
        refine q_calli hw (va_runV (As := [.int (-5 : Int32)]) (rest := []) C0 (kX8_refuse hco7 _) (cwV 1 hts gX8_free_X8_refuse rfl rfl rfl eX8_refuse ⟨(Nat.le_of_ble_eq_true rfl), (Nat.le_of_ble_eq_true rfl)⟩) ⟨q_blind, q_recv hw (xN_0 xF_0) (xE_0 xF_0) rfl, q_pre hw⟩ rfl rfl hl.1 rfl (lv_room (Nat.le_of_ble_eq_true rfl)) dX8_free_44 ⟨Nat.zero_le _, Nat.zero_le _⟩) (fun H locs hw => ?_)
        exact q_iret h C0 hr hlk hw dX8_free_47
    · replace h := q_f h c3
      refine lv_aload_n hx hb dX8_free_18 rfl (lv_at hl 0 rfl) ?_
      refine lv_bipush (v := (-2 : Int32)) hx hb dX8_free_19 (by decide) ?_
      obtain ⟨o8, hco8, h⟩ := q_bind h
      refine q_calli hw (va_runV (As := [.int (-2 : Int32)]) (rest := []) C0 (kX8_refuse hco8 _) (cwV 1 hts gX8_free_X8_refuse rfl rfl rfl eX8_refuse ⟨(Nat.le_of_ble_eq_true rfl), (Nat.le_of_ble_eq_true rfl)⟩) ⟨q_blind, q_recv hw (xN_0 xF_0) (xE_0 xF_0) rfl, q_pre hw⟩ rfl rfl hl.1 rfl (lv_room (Nat.le_of_ble_eq_true rfl)) dX8_free_21 ⟨Nat.zero_le _, Nat.zero_le _⟩) (fun H locs hw => ?_)
      exact q_iret h C0 hr hlk hw dX8_free_24
-- X8_comes comes(IJ)I
theorem iX8_comes_X0 : ∀ w ∈ wsX00, w ∈ wsX8_comes := by decide +kernel
theorem iX8_comes_X2 : ∀ w ∈ wsX20, w ∈ wsX8_comes := by decide +kernel
theorem iX8_comes_X6 : ∀ w ∈ wsX60, w ∈ wsX8_comes := by decide +kernel
theorem iX8_comes_X8 : ∀ w ∈ wsX80, w ∈ wsX8_comes := by decide +kernel
set_option maxHeartbeats 4000000 in
set_option maxRecDepth 100000 in
theorem kX8_comes {p1 : Int32} {p2 : Int64}  {σ : q_M} {out : Int32 × q_M} (h : fX8_comes p1 p2 σ = some out) : q_Mi l (gX D cI cJ cS ad adK adV) yX8_comes wsX8_comes { frames := 3, cells := 0, slots := 0, locals := 78 } [.ref (ad 0), .int p1, .long p2] σ out := by
  refine q_Mi_of (cc := cX8_comes) (maxL := 5) (ret := (some .int)) (by decide) rfl (Nat.le_of_ble_eq_true rfl) ?_
  intro p e s m below meth c ls C0 hr hlk hl hw
  obtain ⟨hx, hb, hml, hown, hts⟩ := id C0
  replace hl : lv_has ls 5 [(0, .ref (ad 0)), (1, .int p1), (2, .long p2)] := hl
  unfold fX8_comes at h
  refine lv_aload_n hx hb dX8_comes_0 rfl (lv_at hl 0 rfl) ?_
  refine lv_iload_n hx hb dX8_comes_1 rfl (lv_at hl 1 rfl) ?_
  obtain ⟨o1, hco1, h⟩ := q_bind h
  refine q_calli hw (va_runV (As := [.int p1]) (rest := []) C0 (kX8_moveRefusal hco1 _) (cwV 1 hts gX8_comes_X8_moveRefusal rfl rfl rfl eX8_moveRefusal ⟨(Nat.le_of_ble_eq_true rfl), (Nat.le_of_ble_eq_true rfl)⟩) ⟨q_blind, q_recv hw (xN_0 xF_0) (xE_0 xF_0) rfl, q_pre hw⟩ rfl rfl hl.1 rfl (lv_room (Nat.le_of_ble_eq_true rfl)) dX8_comes_2 ⟨Nat.zero_le _, Nat.zero_le _⟩) (fun H locs hw => ?_)
  refine lv_istore (lv' := [(4, .int o1.1), (0, .ref (ad 0)), (1, .int p1), (2, .long p2)]) hx hb dX8_comes_5 hl (by decide) rfl (fun ls hl => ?_)
  refine lv_iload hx hb dX8_comes_7 (lv_at hl 0 rfl) ?_
  refine lv_if_eq (tgt := 19) hx hb dX8_comes_9 (by decide) (fun c2 => ?_) (fun c2 => ?_)
  · replace h := q_t h c2
    refine lv_aload_n hx hb dX8_comes_19 rfl (lv_at hl 1 rfl) ?_
    refine gt_X8_4 C0 hw xF_0 iX8_comes_X8 (by decide +kernel) dX8_comes_20 ?_
    refine lv_iload_n hx hb dX8_comes_23 rfl (lv_at hl 2 rfl) ?_
    obtain ⟨b3, h⟩ := q_if h
    refine q_aald (t0 := 2) C0 hw (xN_8 xF_22) (xE_8 xF_22) rfl b3 rfl dX8_comes_24 ?_
    refine gt_X6_2 C0 hw (xSh b3) iX8_comes_X6 (by decide +kernel) dX8_comes_25 ?_
    refine lv_aload_n hx hb dX8_comes_28 rfl (lv_at hl 1 rfl) ?_
    refine gt_X8_0 C0 hw xF_0 iX8_comes_X8 (by decide +kernel) dX8_comes_29 ?_
    refine gt_X2_0 C0 hw xF_1 iX8_comes_X2 (by decide +kernel) dX8_comes_32 ?_
    refine lv_lload_n hx hb dX8_comes_35 rfl (lv_at hl 3 rfl) ?_
    refine lv_aload_n hx hb dX8_comes_36 rfl (lv_at hl 1 rfl) ?_
    refine gt_X8_0 C0 hw xF_0 iX8_comes_X8 (by decide +kernel) dX8_comes_37 ?_
    refine gt_X2_0 C0 hw xF_1 iX8_comes_X2 (by decide +kernel) dX8_comes_40 ?_
    refine gt_X0_2 C0 hw xF_2 iX8_comes_X0 (by decide +kernel) dX8_comes_43 ?_
    refine lv_land hx hb dX8_comes_46 ?_
    refine lv_aload_n hx hb dX8_comes_47 rfl (lv_at hl 1 rfl) ?_
    refine gt_X8_0 C0 hw xF_0 iX8_comes_X8 (by decide +kernel) dX8_comes_48 ?_
    refine gt_X2_1 C0 hw xF_1 iX8_comes_X2 (by decide +kernel) dX8_comes_51 ?_
    obtain ⟨o4, hco4, h⟩ := q_bind h
    refine q_calli hw (va_runV (As := [.ref (ad 2), .long (p2 &&& (o1.2.2 2 2)), .long (o1.2.2 1 1)]) (rest := []) C0 (kX3_takes (xD_15_3 (xSh b3)) xF_2 hco4 _) (cwV 3 hts gX8_comes_X3_takes rfl rfl rfl eX3_takes ⟨(Nat.le_of_ble_eq_true rfl), (Nat.le_of_ble_eq_true rfl)⟩) ⟨q_blind, q_recv hw (xN_18 (xD_15_3 (xSh b3))) (xE_18 (xD_15_3 (xSh b3))) rfl, q_pre hw⟩ rfl rfl hl.1 rfl (lv_room (Nat.le_of_ble_eq_true rfl)) dX8_comes_54 ⟨Nat.zero_le _, Nat.zero_le _⟩) (fun H locs hw => ?_)
    refine lv_if_eq (tgt := 64) hx hb dX8_comes_57 (by decide) (fun c5 => ?_) (fun c5 => ?_)
    · replace h := q_t h c5
      refine lv_iconst (v := (0 : Int32)) hx hb dX8_comes_64 (by decide) ?_
      exact q_iret h C0 hr hlk hw dX8_comes_65
    · replace h := q_f h c5
      refine lv_iconst (v := (1 : Int32)) hx hb dX8_comes_60 (by decide) ?_
      refine lv_goto (tgt := 65) hx hb dX8_comes_61 (by decide) ?_
      exact q_iret h C0 hr hlk hw dX8_comes_65
  · replace h := q_f h c2
    refine lv_aload_n hx hb dX8_comes_12 rfl (lv_at hl 1 rfl) ?_
    refine lv_iload hx hb dX8_comes_13 (lv_at hl 0 rfl) ?_
    obtain ⟨o6, hco6, h⟩ := q_bind h
    refine q_calli hw (va_runV (As := [.int o1.1]) (rest := []) C0 (kX8_refuse hco6 _) (cwV 1 hts gX8_comes_X8_refuse rfl rfl rfl eX8_refuse ⟨(Nat.le_of_ble_eq_true rfl), (Nat.le_of_ble_eq_true rfl)⟩) ⟨q_blind, q_recv hw (xN_0 xF_0) (xE_0 xF_0) rfl, q_pre hw⟩ rfl rfl hl.1 rfl (lv_room (Nat.le_of_ble_eq_true rfl)) dX8_comes_15 ⟨Nat.zero_le _, Nat.zero_le _⟩) (fun H locs hw => ?_)
    exact q_iret h C0 hr hlk hw dX8_comes_18
-- X8_wrong wrong(Z)I
theorem iX8_wrong_X8 : ∀ w ∈ wsX80, w ∈ wsX8_wrong := by decide +kernel
theorem eX2_wrongPlace : yX2_wrongPlace.cls = RX2 ∧ yX2_wrongPlace.cls ≠ "java/lang/invoke/MethodHandle" ∧ yX2_wrongPlace.cls ≠ "java/lang/invoke/VarHandle" ∧ (parseMethodDescriptor yX2_wrongPlace.desc).map (fun d => d.parameters.length) = some 1 := by decide +kernel
set_option maxHeartbeats 4000000 in
set_option maxRecDepth 100000 in
theorem tX8_wrong_c2 {p1 : Int32}  (C0 : CallFix p m c cX8_wrong 4 s args wsX8_wrong RX8) (hr : meth.sig.returnType = (some .int)) (hlk : meth.locks = false) {out : Int32 × q_M}  : ∀ n : Nat, ∀ (v2 : Int32) (σ : q_M) (H : Heap) (locs : List Loc) (ls : Array Slot), q_H (gX D cI cJ cS ad adK adV) (q_A (gX D cI cJ cS ad adK adV) s.heap.size) s σ H locs → lv_has ls 4 [(0, .ref (ad 0)), (1, .int p1), (2, .int v2)] → fX8_wrong_c2 p1 n v2 σ = some out → W p l e { frames := 6, cells := 0, slots := 0, locals := 148 } s m args below meth c H locs 0 0 (MQ below (q_Ri (gX D cI cJ cS ad adK adV) (q_A (gX D cI cJ cS ad adK adV) s.heap.size) out) args s 0 0 (q_A (gX D cI cJ cS ad adK adV) s.heap.size)) (F0 m 2 ls []) := by
  obtain ⟨hx, hb, hml, hown, hts⟩ := id C0
  intro n
  induction n with
  | zero =>
    intro v2 σ H locs ls  hw hl h
    cases (show (none : Option (Int32 × q_M)) = some out from h)
  | succ n hrec2 =>
    intro v2 σ H locs ls  hw hl h
    replace h : fX8_wrong_c2b p1 (fX8_wrong_c2 p1 n) v2 σ = some out := h
    unfold fX8_wrong_c2b at h
    refine lv_iload_n hx hb dX8_wrong_2 rfl (lv_at hl 2 rfl) ?_
    refine lv_iconst (v := (5 : Int32)) hx hb dX8_wrong_3 (by decide) ?_
    refine lv_icmp_gt (tgt := 37) hx hb dX8_wrong_4 (by decide) (fun c1 => ?_) (fun c1 => ?_)
    · replace h := q_t h c1
      refine lv_iload_n hx hb dX8_wrong_37 rfl (lv_at hl 1 rfl) ?_
      refine lv_if_eq (tgt := 45) hx hb dX8_wrong_38 (by decide) (fun c2 => ?_) (fun c2 => ?_)
      · replace h := q_t h c2
        refine lv_iconst (v := (-1 : Int32)) hx hb dX8_wrong_45 (by decide) ?_
        exact q_iret h C0 hr hlk hw dX8_wrong_46
      · replace h := q_f h c2
        refine lv_iconst (v := (0 : Int32)) hx hb dX8_wrong_41 (by decide) ?_
        refine lv_goto (tgt := 46) hx hb dX8_wrong_42 (by decide) ?_
        exact q_iret h C0 hr hlk hw dX8_wrong_46
    · replace h := q_f h c1
      refine lv_aload_n hx hb dX8_wrong_7 rfl (lv_at hl 0 rfl) ?_
      refine gt_X8_0 C0 hw xF_0 iX8_wrong_X8 (by decide +kernel) dX8_wrong_8 ?_
      refine lv_iload_n hx hb dX8_wrong_11 rfl (lv_at hl 2 rfl) ?_
      obtain ⟨o3, hco3, h⟩ := q_bind h
      refine q_calli hw (va_runV (As := [.int v2]) (rest := []) C0 (kX2_wrongPlace xF_1 hco3 _) (cwV 1 hts gX8_wrong_X2_wrongPlace rfl rfl rfl eX2_wrongPlace ⟨(Nat.le_of_ble_eq_true rfl), (Nat.le_of_ble_eq_true rfl)⟩) ⟨q_blind, q_recv hw (xN_1 xF_1) (xE_1 xF_1) rfl, q_pre hw⟩ rfl rfl hl.1 rfl (lv_room (Nat.le_of_ble_eq_true rfl)) dX8_wrong_12 ⟨Nat.zero_le _, Nat.zero_le _⟩) (fun H locs hw => ?_)
      refine lv_istore_n (lv' := [(3, .int o3.1), (0, .ref (ad 0)), (1, .int p1), (2, .int v2)]) hx hb dX8_wrong_15 rfl hl (by decide) rfl (fun ls hl => ?_)
      refine lv_iload_n hx hb dX8_wrong_16 rfl (lv_at hl 0 rfl) ?_
      refine lv_iconst (v := (-1 : Int32)) hx hb dX8_wrong_17 (by decide) ?_
      refine lv_icmp_eq (tgt := 31) hx hb dX8_wrong_18 (by decide) (fun c4 => ?_) (fun c4 => ?_)
      · replace h := q_t h c4
        refine lv_iinc (v := (v2 + (1 : Int32))) (lv' := [(2, .int (v2 + (1 : Int32))), (3, .int o3.1), (0, .ref (ad 0)), (1, .int p1)]) hx hb dX8_wrong_31 hl (k := 3) rfl rfl (by decide) rfl (fun ls hl => ?_)
        refine lv_goto (tgt := 2) hx hb dX8_wrong_34 (by decide) ?_
        exact hrec2 (v2 + (1 : Int32)) o3.2 _ _ _ hw (lv_sub hl [2, 3, 0] rfl) h
      · replace h := q_f h c4
        refine lv_iload_n hx hb dX8_wrong_21 rfl (lv_at hl 2 rfl) ?_
        refine lv_if_eq (tgt := 29) hx hb dX8_wrong_22 (by decide) (fun c5 => ?_) (fun c5 => ?_)
        · replace h := q_t h c5
          refine lv_iload_n hx hb dX8_wrong_29 rfl (lv_at hl 0 rfl) ?_
          exact q_iret h C0 hr hlk hw dX8_wrong_30
        · replace h := q_f h c5
          refine lv_iload_n hx hb dX8_wrong_25 rfl (lv_at hl 3 rfl) ?_
          refine lv_goto (tgt := 30) hx hb dX8_wrong_26 (by decide) ?_
          exact q_iret h C0 hr hlk hw dX8_wrong_30
set_option maxHeartbeats 4000000 in
set_option maxRecDepth 100000 in
theorem kX8_wrong {p1 : Int32}  {σ : q_M} {out : Int32 × q_M} (h : fX8_wrong p1 σ = some out) : q_Mi l (gX D cI cJ cS ad adK adV) yX8_wrong wsX8_wrong { frames := 6, cells := 0, slots := 0, locals := 148 } [.ref (ad 0), .int p1] σ out := by
  refine q_Mi_of (cc := cX8_wrong) (maxL := 4) (ret := (some .int)) (by decide) rfl (Nat.le_of_ble_eq_true rfl) ?_
  intro p e s m below meth c ls C0 hr hlk hl hw
  obtain ⟨hx, hb, hml, hown, hts⟩ := id C0
  replace hl : lv_has ls 4 [(0, .ref (ad 0)), (1, .int p1)] := hl
  unfold fX8_wrong at h
  refine lv_iconst (v := (1 : Int32)) hx hb dX8_wrong_0 (by decide) ?_
  refine lv_istore_n (lv' := [(2, .int (1 : Int32)), (0, .ref (ad 0)), (1, .int p1)]) hx hb dX8_wrong_1 rfl hl (by decide) rfl (fun ls hl => ?_)
  exact tX8_wrong_c2 C0 hr hlk q_FU (1 : Int32) σ _ _ _ hw (lv_sub hl [1, 2, 0] rfl) h
-- X8_looseBy looseBy(II)I
theorem iX8_looseBy_X2 : ∀ w ∈ wsX20, w ∈ wsX8_looseBy := by decide +kernel
theorem iX8_looseBy_X6 : ∀ w ∈ wsX60, w ∈ wsX8_looseBy := by decide +kernel
theorem iX8_looseBy_X8 : ∀ w ∈ wsX80, w ∈ wsX8_looseBy := by decide +kernel
set_option maxHeartbeats 4000000 in
set_option maxRecDepth 100000 in
theorem tX8_looseBy_c24 {p1 : Int32} {p2 : Int32}  (C0 : CallFix p m c cX8_looseBy 6 s args wsX8_looseBy RX8) (hr : meth.sig.returnType = (some .int)) (hlk : meth.locks = false) {out : Int32 × q_M}  : ∀ n : Nat, ∀ (v3 : Int64) (v5 : Int32) (σ : q_M) (H : Heap) (locs : List Loc) (ls : Array Slot), q_H (gX D cI cJ cS ad adK adV) (q_A (gX D cI cJ cS ad adK adV) s.heap.size) s σ H locs → lv_has ls 6 [(0, .ref (ad 0)), (1, .int p1), (3, .long v3), (5, .int v5)] → fX8_looseBy_c24 p1 p2 n v3 v5 σ = some out → W p l e { frames := 3, cells := 0, slots := 0, locals := 78 } s m args below meth c H locs 0 0 (MQ below (q_Ri (gX D cI cJ cS ad adK adV) (q_A (gX D cI cJ cS ad adK adV) s.heap.size) out) args s 0 0 (q_A (gX D cI cJ cS ad adK adV) s.heap.size)) (F0 m 24 ls []) := by
  obtain ⟨hx, hb, hml, hown, hts⟩ := id C0
  intro n
  induction n with
  | zero =>
    intro v3 v5 σ H locs ls  hw hl h
    cases (show (none : Option (Int32 × q_M)) = some out from h)
  | succ n hrec24 =>
    intro v3 v5 σ H locs ls  hw hl h
    replace h : fX8_looseBy_c24b p1 p2 (fX8_looseBy_c24 p1 p2 n) v3 v5 σ = some out := h
    unfold fX8_looseBy_c24b at h
    refine lv_iload hx hb dX8_looseBy_24 (lv_at hl 3 rfl) ?_
    refine lv_bipush (v := (8 : Int32)) hx hb dX8_looseBy_26 (by decide) ?_
    refine lv_icmp_ge (tgt := 86) hx hb dX8_looseBy_28 (by decide) (fun c1 => ?_) (fun c1 => ?_)
    · replace h := q_t h c1
      refine lv_iconst (v := (-1 : Int32)) hx hb dX8_looseBy_86 (by decide) ?_
      exact q_iret h C0 hr hlk hw dX8_looseBy_87
    · replace h := q_f h c1
      refine lv_aload_n hx hb dX8_looseBy_31 rfl (lv_at hl 0 rfl) ?_
      refine gt_X8_4 C0 hw xF_0 iX8_looseBy_X8 (by decide +kernel) dX8_looseBy_32 ?_
      refine lv_iload hx hb dX8_looseBy_35 (lv_at hl 3 rfl) ?_
      obtain ⟨b2, h⟩ := q_if h
      refine q_aald (t0 := 2) C0 hw (xN_8 xF_22) (xE_8 xF_22) rfl b2 rfl dX8_looseBy_37 ?_
      obtain ⟨o3, hco3, h⟩ := q_bind h
      refine q_calli hw (va_runV (As := []) (rest := []) C0 (kX6_isMove (xSh b2) hco3 _) (cwV 0 hts gX8_looseBy_X6_isMove rfl rfl rfl eX6_isMove ⟨(Nat.le_of_ble_eq_true rfl), (Nat.le_of_ble_eq_true rfl)⟩) ⟨q_blind, q_recv hw (xN_15 (xSh b2)) (xE_15 (xSh b2)) rfl, q_pre hw⟩ rfl rfl hl.1 rfl (lv_room (Nat.le_of_ble_eq_true rfl)) dX8_looseBy_38 ⟨Nat.zero_le _, Nat.zero_le _⟩) (fun H locs hw => ?_)
      refine lv_if_eq (tgt := 80) hx hb dX8_looseBy_41 (by decide) (fun c4 => ?_) (fun c4 => ?_)
      · replace h := q_t h c4
        refine lv_iinc (v := (v5 + (1 : Int32))) (lv' := [(5, .int (v5 + (1 : Int32))), (0, .ref (ad 0)), (1, .int p1), (3, .long v3)]) hx hb dX8_looseBy_80 hl (k := 3) rfl rfl (by decide) rfl (fun ls hl => ?_)
        refine lv_goto (tgt := 24) hx hb dX8_looseBy_83 (by decide) ?_
        exact hrec24 v3 (v5 + (1 : Int32)) o3.2 _ _ _ hw (lv_sub hl [1, 2, 3, 0] rfl) h
      · replace h := q_f h c4
        refine lv_aload_n hx hb dX8_looseBy_44 rfl (lv_at hl 0 rfl) ?_
        refine gt_X8_4 C0 hw xF_0 iX8_looseBy_X8 (by decide +kernel) dX8_looseBy_45 ?_
        refine lv_iload hx hb dX8_looseBy_48 (lv_at hl 3 rfl) ?_
        obtain ⟨b5, h⟩ := q_if h
        refine q_aald (t0 := 2) C0 hw (xN_8 xF_22) (xE_8 xF_22) rfl b5 rfl dX8_looseBy_50 ?_
        refine gt_X6_2 C0 hw (xSh b5) iX8_looseBy_X6 (by decide +kernel) dX8_looseBy_51 ?_
        refine lv_aload_n hx hb dX8_looseBy_54 rfl (lv_at hl 0 rfl) ?_
        refine gt_X8_0 C0 hw xF_0 iX8_looseBy_X8 (by decide +kernel) dX8_looseBy_55 ?_
        refine gt_X2_0 C0 hw xF_1 iX8_looseBy_X2 (by decide +kernel) dX8_looseBy_58 ?_
        refine lv_aload_n hx hb dX8_looseBy_61 rfl (lv_at hl 0 rfl) ?_
        refine gt_X8_0 C0 hw xF_0 iX8_looseBy_X8 (by decide +kernel) dX8_looseBy_62 ?_
        refine gt_X2_6 C0 hw xF_1 iX8_looseBy_X2 (by decide +kernel) dX8_looseBy_65 ?_
        refine lv_iload_n hx hb dX8_looseBy_68 rfl (lv_at hl 1 rfl) ?_
        obtain ⟨b6, h⟩ := q_if h
        refine q_lald (t0 := 1) C0 hw (xN_6 xF_6) (xE_6 xF_6) rfl b6 dX8_looseBy_69 ?_
        refine lv_lload_n hx hb dX8_looseBy_70 rfl (lv_at hl 2 rfl) ?_
        obtain ⟨o7, hco7, h⟩ := q_bind h
        refine q_calli hw (va_runV (As := [.ref (ad 2), .long (o3.2.2 6 p1.toNatClampNeg), .long v3]) (rest := []) C0 (kX3_takes (xD_15_3 (xSh b5)) xF_2 hco7 _) (cwV 3 hts gX8_looseBy_X3_takes rfl rfl rfl eX3_takes ⟨(Nat.le_of_ble_eq_true rfl), (Nat.le_of_ble_eq_true rfl)⟩) ⟨q_blind, q_recv hw (xN_18 (xD_15_3 (xSh b5))) (xE_18 (xD_15_3 (xSh b5))) rfl, q_pre hw⟩ rfl rfl hl.1 rfl (lv_room (Nat.le_of_ble_eq_true rfl)) dX8_looseBy_71 ⟨Nat.zero_le _, Nat.zero_le _⟩) (fun H locs hw => ?_)
        refine lv_if_eq (tgt := 80) hx hb dX8_looseBy_74 (by decide) (fun c8 => ?_) (fun c8 => ?_)
        · replace h := q_t h c8
          refine lv_iinc (v := (v5 + (1 : Int32))) (lv' := [(5, .int (v5 + (1 : Int32))), (0, .ref (ad 0)), (1, .int p1), (3, .long v3)]) hx hb dX8_looseBy_80 hl (k := 3) rfl rfl (by decide) rfl (fun ls hl => ?_)
          refine lv_goto (tgt := 24) hx hb dX8_looseBy_83 (by decide) ?_
          exact hrec24 v3 (v5 + (1 : Int32)) o7.2 _ _ _ hw (lv_sub hl [1, 2, 3, 0] rfl) h
        · replace h := q_f h c8
          refine lv_iload hx hb dX8_looseBy_77 (lv_at hl 3 rfl) ?_
          exact q_iret h C0 hr hlk hw dX8_looseBy_79
set_option maxHeartbeats 4000000 in
set_option maxRecDepth 100000 in
theorem kX8_looseBy {p1 : Int32} {p2 : Int32}  {σ : q_M} {out : Int32 × q_M} (h : fX8_looseBy p1 p2 σ = some out) : q_Mi l (gX D cI cJ cS ad adK adV) yX8_looseBy wsX8_looseBy { frames := 3, cells := 0, slots := 0, locals := 78 } [.ref (ad 0), .int p1, .int p2] σ out := by
  refine q_Mi_of (cc := cX8_looseBy) (maxL := 6) (ret := (some .int)) (by decide) rfl (Nat.le_of_ble_eq_true rfl) ?_
  intro p e s m below meth c ls C0 hr hlk hl hw
  obtain ⟨hx, hb, hml, hown, hts⟩ := id C0
  replace hl : lv_has ls 6 [(0, .ref (ad 0)), (1, .int p1), (2, .int p2)] := hl
  unfold fX8_looseBy at h
  refine lv_aload_n hx hb dX8_looseBy_0 rfl (lv_at hl 0 rfl) ?_
  refine gt_X8_0 C0 hw xF_0 iX8_looseBy_X8 (by decide +kernel) dX8_looseBy_1 ?_
  refine gt_X2_1 C0 hw xF_1 iX8_looseBy_X2 (by decide +kernel) dX8_looseBy_4 ?_
  refine lv_aload_n hx hb dX8_looseBy_7 rfl (lv_at hl 0 rfl) ?_
  refine gt_X8_0 C0 hw xF_0 iX8_looseBy_X8 (by decide +kernel) dX8_looseBy_8 ?_
  refine lv_iload_n hx hb dX8_looseBy_11 rfl (lv_at hl 2 rfl) ?_
  refine lv_iconst (v := (1 : Int32)) hx hb dX8_looseBy_12 (by decide) ?_
  refine lv_iload_n hx hb dX8_looseBy_13 rfl (lv_at hl 1 rfl) ?_
  refine q_ishl (v := (q_sl (1 : Int32) p1)) C0 dX8_looseBy_14 rfl ?_
  refine lv_ior hx hb dX8_looseBy_15 ?_
  obtain ⟨o1, hco1, h⟩ := q_bind h
  refine q_calll hw (va_runV (As := [.int (p2 ||| (q_sl (1 : Int32) p1))]) (rest := [.long (σ.2 1 1)]) C0 (kX2_inPieces xF_1 hco1 _) (cwV 1 hts gX8_looseBy_X2_inPieces rfl rfl rfl eX2_inPieces ⟨(Nat.le_of_ble_eq_true rfl), (Nat.le_of_ble_eq_true rfl)⟩) ⟨q_blind, q_recv hw (xN_1 xF_1) (xE_1 xF_1) rfl, q_pre hw⟩ rfl rfl hl.1 rfl (lv_room (Nat.le_of_ble_eq_true rfl)) dX8_looseBy_16 ⟨Nat.zero_le _, Nat.zero_le _⟩) (fun H locs hw => ?_)
  refine lv_lor hx hb dX8_looseBy_19 ?_
  refine lv_lstore_n (lv' := [(3, .long ((σ.2 1 1) ||| o1.1)), (0, .ref (ad 0)), (1, .int p1), (2, .int p2)]) hx hb dX8_looseBy_20 rfl hl (by decide) rfl (fun ls hl => ?_)
  refine lv_iconst (v := (0 : Int32)) hx hb dX8_looseBy_21 (by decide) ?_
  refine lv_istore (lv' := [(5, .int (0 : Int32)), (3, .long ((σ.2 1 1) ||| o1.1)), (0, .ref (ad 0)), (1, .int p1), (2, .int p2)]) hx hb dX8_looseBy_22 hl (by decide) rfl (fun ls hl => ?_)
  exact tX8_looseBy_c24 C0 hr hlk q_FU ((σ.2 1 1) ||| o1.1) (0 : Int32) o1.2 _ _ _ hw (lv_sub hl [2, 3, 1, 0] rfl) h
-- X8_loose loose(I)I
theorem iX8_loose_X2 : ∀ w ∈ wsX20, w ∈ wsX8_loose := by decide +kernel
theorem iX8_loose_X8 : ∀ w ∈ wsX80, w ∈ wsX8_loose := by decide +kernel
theorem eX8_looseBy : yX8_looseBy.cls = RX8 ∧ yX8_looseBy.cls ≠ "java/lang/invoke/MethodHandle" ∧ yX8_looseBy.cls ≠ "java/lang/invoke/VarHandle" ∧ (parseMethodDescriptor yX8_looseBy.desc).map (fun d => d.parameters.length) = some 2 := by decide +kernel
set_option maxHeartbeats 4000000 in
set_option maxRecDepth 100000 in
theorem kX8_loose {p1 : Int32}  {σ : q_M} {out : Int32 × q_M} (h : fX8_loose p1 σ = some out) : q_Mi l (gX D cI cJ cS ad adK adV) yX8_loose wsX8_loose { frames := 4, cells := 0, slots := 0, locals := 103 } [.ref (ad 0), .int p1] σ out := by
  refine q_Mi_of (cc := cX8_loose) (maxL := 3) (ret := (some .int)) (by decide) rfl (Nat.le_of_ble_eq_true rfl) ?_
  intro p e s m below meth c ls C0 hr hlk hl hw
  obtain ⟨hx, hb, hml, hown, hts⟩ := id C0
  replace hl : lv_has ls 3 [(0, .ref (ad 0)), (1, .int p1)] := hl
  unfold fX8_loose at h
  refine lv_aload_n hx hb dX8_loose_0 rfl (lv_at hl 0 rfl) ?_
  refine lv_iload_n hx hb dX8_loose_1 rfl (lv_at hl 1 rfl) ?_
  obtain ⟨o1, hco1, h⟩ := q_bind h
  refine q_calli hw (va_runV (As := [.int p1]) (rest := []) C0 (kX8_onPieceRefusal hco1 _) (cwV 1 hts gX8_loose_X8_onPieceRefusal rfl rfl rfl eX8_onPieceRefusal ⟨(Nat.le_of_ble_eq_true rfl), (Nat.le_of_ble_eq_true rfl)⟩) ⟨q_blind, q_recv hw (xN_0 xF_0) (xE_0 xF_0) rfl, q_pre hw⟩ rfl rfl hl.1 rfl (lv_room (Nat.le_of_ble_eq_true rfl)) dX8_loose_2 ⟨Nat.zero_le _, Nat.zero_le _⟩) (fun H locs hw => ?_)
  refine lv_istore_n (lv' := [(2, .int o1.1), (0, .ref (ad 0)), (1, .int p1)]) hx hb dX8_loose_5 rfl hl (by decide) rfl (fun ls hl => ?_)
  refine lv_iload_n hx hb dX8_loose_6 rfl (lv_at hl 0 rfl) ?_
  refine lv_if_eq (tgt := 18) hx hb dX8_loose_7 (by decide) (fun c2 => ?_) (fun c2 => ?_)
  · replace h := q_t h c2
    refine lv_aload_n hx hb dX8_loose_18 rfl (lv_at hl 1 rfl) ?_
    refine lv_iload_n hx hb dX8_loose_19 rfl (lv_at hl 2 rfl) ?_
    refine lv_aload_n hx hb dX8_loose_20 rfl (lv_at hl 1 rfl) ?_
    refine gt_X8_0 C0 hw xF_0 iX8_loose_X8 (by decide +kernel) dX8_loose_21 ?_
    refine gt_X2_3 C0 hw xF_1 iX8_loose_X2 (by decide +kernel) dX8_loose_24 ?_
    obtain ⟨o3, hco3, h⟩ := q_bind h
    refine q_calli hw (va_runV (As := [.int p1, .int (o1.2.1 1 3)]) (rest := []) C0 (kX8_looseBy hco3 _) (cwV 2 hts gX8_loose_X8_looseBy rfl rfl rfl eX8_looseBy ⟨(Nat.le_of_ble_eq_true rfl), (Nat.le_of_ble_eq_true rfl)⟩) ⟨q_blind, q_recv hw (xN_0 xF_0) (xE_0 xF_0) rfl, q_pre hw⟩ rfl rfl hl.1 rfl (lv_room (Nat.le_of_ble_eq_true rfl)) dX8_loose_27 ⟨Nat.zero_le _, Nat.zero_le _⟩) (fun H locs hw => ?_)
    exact q_iret h C0 hr hlk hw dX8_loose_30
  · replace h := q_f h c2
    refine lv_aload_n hx hb dX8_loose_10 rfl (lv_at hl 1 rfl) ?_
    refine lv_iload_n hx hb dX8_loose_11 rfl (lv_at hl 0 rfl) ?_
    obtain ⟨o4, hco4, h⟩ := q_bind h
    refine q_calli hw (va_runV (As := [.int o1.1]) (rest := []) C0 (kX8_refuse hco4 _) (cwV 1 hts gX8_loose_X8_refuse rfl rfl rfl eX8_refuse ⟨(Nat.le_of_ble_eq_true rfl), (Nat.le_of_ble_eq_true rfl)⟩) ⟨q_blind, q_recv hw (xN_0 xF_0) (xE_0 xF_0) rfl, q_pre hw⟩ rfl rfl hl.1 rfl (lv_room (Nat.le_of_ble_eq_true rfl)) dX8_loose_12 ⟨Nat.zero_le _, Nat.zero_le _⟩) (fun H locs hw => ?_)
    refine lv_goto (tgt := 30) hx hb dX8_loose_15 (by decide) ?_
    exact q_iret h C0 hr hlk hw dX8_loose_30
-- X8_bars bars(II)I
theorem iX8_bars_X2 : ∀ w ∈ wsX20, w ∈ wsX8_bars := by decide +kernel
theorem iX8_bars_X6 : ∀ w ∈ wsX60, w ∈ wsX8_bars := by decide +kernel
theorem iX8_bars_X8 : ∀ w ∈ wsX80, w ∈ wsX8_bars := by decide +kernel
set_option maxHeartbeats 4000000 in
set_option maxRecDepth 100000 in
theorem tX8_bars_c80 {p1 : Int32} {p2 : Int32} {rec45 : Int32 → Int32 → q_M → Option (Int32 × q_M)}  (C0 : CallFix p m c cX8_bars 7 s args wsX8_bars RX8) (hr : meth.sig.returnType = (some .int)) (hlk : meth.locks = false) {out : Int32 × q_M} (hrec45 : ∀ (v4 : Int32) (v5 : Int32) (σ : q_M) (H : Heap) (locs : List Loc) (ls : Array Slot), q_H (gX D cI cJ cS ad adK adV) (q_A (gX D cI cJ cS ad adK adV) s.heap.size) s σ H locs → lv_has ls 7 [(0, .ref (ad 0)), (1, .int p1), (2, .int p2), (4, .int v4), (5, .int v5)] → rec45 v4 v5 σ = some out → W p l e { frames := 3, cells := 0, slots := 0, locals := 78 } s m args below meth c H locs 0 0 (MQ below (q_Ri (gX D cI cJ cS ad adK adV) (q_A (gX D cI cJ cS ad adK adV) s.heap.size) out) args s 0 0 (q_A (gX D cI cJ cS ad adK adV) s.heap.size)) (F0 m 45 ls [])) : ∀ (v4 : Int32) (v5 : Int32) (s0 : Int32) (σ : q_M) (H : Heap) (locs : List Loc) (ls : Array Slot), q_H (gX D cI cJ cS ad adK adV) (q_A (gX D cI cJ cS ad adK adV) s.heap.size) s σ H locs → lv_has ls 7 [(0, .ref (ad 0)), (1, .int p1), (2, .int p2), (4, .int v4), (5, .int v5)] → fX8_bars_c80 p1 p2 rec45 v4 v5 s0 σ = some out → W p l e { frames := 3, cells := 0, slots := 0, locals := 78 } s m args below meth c H locs 0 0 (MQ below (q_Ri (gX D cI cJ cS ad adK adV) (q_A (gX D cI cJ cS ad adK adV) s.heap.size) out) args s 0 0 (q_A (gX D cI cJ cS ad adK adV) s.heap.size)) (F0 m 80 ls [.int s0]) := by
  obtain ⟨hx, hb, hml, hown, hts⟩ := id C0
  intro v4 v5 s0 σ H locs ls  hw hl h
  unfold fX8_bars_c80 at h
  refine lv_istore (lv' := [(6, .int s0), (0, .ref (ad 0)), (1, .int p1), (2, .int p2), (4, .int v4), (5, .int v5)]) hx hb dX8_bars_80 hl (by decide) rfl (fun ls hl => ?_)
  refine lv_iload hx hb dX8_bars_82 (lv_at hl 0 rfl) ?_
  refine lv_if_eq (tgt := 137) hx hb dX8_bars_84 (by decide) (fun c1 => ?_) (fun c1 => ?_)
  · replace h := q_t h c1
    refine lv_iinc (v := (v5 + (1 : Int32))) (lv' := [(5, .int (v5 + (1 : Int32))), (6, .int s0), (0, .ref (ad 0)), (1, .int p1), (2, .int p2), (4, .int v4)]) hx hb dX8_bars_137 hl (k := 5) rfl rfl (by decide) rfl (fun ls hl => ?_)
    refine lv_goto (tgt := 45) hx hb dX8_bars_140 (by decide) ?_
    exact hrec45 v4 (v5 + (1 : Int32)) σ _ _ _ hw (lv_sub hl [2, 3, 4, 5, 0] rfl) h
  · replace h := q_f h c1
    refine lv_aload_n hx hb dX8_bars_87 rfl (lv_at hl 1 rfl) ?_
    refine gt_X8_4 C0 hw xF_0 iX8_bars_X8 (by decide +kernel) dX8_bars_88 ?_
    refine lv_iload_n hx hb dX8_bars_91 rfl (lv_at hl 2 rfl) ?_
    obtain ⟨b2, h⟩ := q_if h
    refine q_aald (t0 := 2) C0 hw (xN_8 xF_22) (xE_8 xF_22) rfl b2 rfl dX8_bars_92 ?_
    refine gt_X6_2 C0 hw (xSh b2) iX8_bars_X6 (by decide +kernel) dX8_bars_93 ?_
    refine lv_aload_n hx hb dX8_bars_96 rfl (lv_at hl 1 rfl) ?_
    refine gt_X8_0 C0 hw xF_0 iX8_bars_X8 (by decide +kernel) dX8_bars_97 ?_
    refine gt_X2_0 C0 hw xF_1 iX8_bars_X2 (by decide +kernel) dX8_bars_100 ?_
    refine lv_aload_n hx hb dX8_bars_103 rfl (lv_at hl 1 rfl) ?_
    refine gt_X8_0 C0 hw xF_0 iX8_bars_X8 (by decide +kernel) dX8_bars_104 ?_
    refine gt_X2_6 C0 hw xF_1 iX8_bars_X2 (by decide +kernel) dX8_bars_107 ?_
    refine lv_iload_n hx hb dX8_bars_110 rfl (lv_at hl 3 rfl) ?_
    obtain ⟨b3, h⟩ := q_if h
    refine q_lald (t0 := 1) C0 hw (xN_6 xF_6) (xE_6 xF_6) rfl b3 dX8_bars_111 ?_
    refine lv_aload_n hx hb dX8_bars_112 rfl (lv_at hl 1 rfl) ?_
    refine gt_X8_0 C0 hw xF_0 iX8_bars_X8 (by decide +kernel) dX8_bars_113 ?_
    refine gt_X2_6 C0 hw xF_1 iX8_bars_X2 (by decide +kernel) dX8_bars_116 ?_
    refine lv_iload hx hb dX8_bars_119 (lv_at hl 5 rfl) ?_
    obtain ⟨b4, h⟩ := q_if h
    refine q_lald (t0 := 1) C0 hw (xN_6 xF_6) (xE_6 xF_6) rfl b4 dX8_bars_121 ?_
    obtain ⟨o5, hco5, h⟩ := q_bind h
    refine q_calli hw (va_runV (As := [.ref (ad 2), .long (σ.2 6 p2.toNatClampNeg), .long (σ.2 6 v5.toNatClampNeg)]) (rest := []) C0 (kX3_takes (xD_15_3 (xSh b2)) xF_2 hco5 _) (cwV 3 hts gX8_bars_X3_takes rfl rfl rfl eX3_takes ⟨(Nat.le_of_ble_eq_true rfl), (Nat.le_of_ble_eq_true rfl)⟩) ⟨q_blind, q_recv hw (xN_18 (xD_15_3 (xSh b2))) (xE_18 (xD_15_3 (xSh b2))) rfl, q_pre hw⟩ rfl rfl hl.1 rfl (lv_room (Nat.le_of_ble_eq_true rfl)) dX8_bars_122 ⟨Nat.zero_le _, Nat.zero_le _⟩) (fun H locs hw => ?_)
    refine lv_if_ne (tgt := 137) hx hb dX8_bars_125 (by decide) (fun c6 => ?_) (fun c6 => ?_)
    · replace h := q_f h c6
      refine lv_iinc (v := (v5 + (1 : Int32))) (lv' := [(5, .int (v5 + (1 : Int32))), (6, .int s0), (0, .ref (ad 0)), (1, .int p1), (2, .int p2), (4, .int v4)]) hx hb dX8_bars_137 hl (k := 5) rfl rfl (by decide) rfl (fun ls hl => ?_)
      refine lv_goto (tgt := 45) hx hb dX8_bars_140 (by decide) ?_
      exact hrec45 v4 (v5 + (1 : Int32)) o5.2 _ _ _ hw (lv_sub hl [2, 3, 4, 5, 0] rfl) h
    · replace h := q_t h c6
      refine lv_iload hx hb dX8_bars_128 (lv_at hl 4 rfl) ?_
      refine lv_iconst (v := (1 : Int32)) hx hb dX8_bars_130 (by decide) ?_
      refine lv_iload hx hb dX8_bars_131 (lv_at hl 5 rfl) ?_
      refine q_ishl (v := (q_sl (1 : Int32) v5)) C0 dX8_bars_133 rfl ?_
      refine lv_ior hx hb dX8_bars_134 ?_
      refine lv_topi (fun x7 e_x7 => ?_)
      replace h := q_let_at e_x7 h
      refine lv_istore (lv' := [(4, .int x7), (6, .int s0), (0, .ref (ad 0)), (1, .int p1), (2, .int p2), (5, .int v5)]) hx hb dX8_bars_135 hl (by decide) rfl (fun ls hl => ?_)
      refine lv_iinc (v := (v5 + (1 : Int32))) (lv' := [(5, .int (v5 + (1 : Int32))), (4, .int x7), (6, .int s0), (0, .ref (ad 0)), (1, .int p1), (2, .int p2)]) hx hb dX8_bars_137 hl (k := 5) rfl rfl (by decide) rfl (fun ls hl => ?_)
      refine lv_goto (tgt := 45) hx hb dX8_bars_140 (by decide) ?_
      exact hrec45 x7 (v5 + (1 : Int32)) o5.2 _ _ _ hw (lv_sub hl [3, 4, 5, 1, 0] rfl) h
set_option maxHeartbeats 4000000 in
set_option maxRecDepth 100000 in
theorem tX8_bars_c45 {p1 : Int32} {p2 : Int32}  (C0 : CallFix p m c cX8_bars 7 s args wsX8_bars RX8) (hr : meth.sig.returnType = (some .int)) (hlk : meth.locks = false) {out : Int32 × q_M}  : ∀ n : Nat, ∀ (v4 : Int32) (v5 : Int32) (σ : q_M) (H : Heap) (locs : List Loc) (ls : Array Slot), q_H (gX D cI cJ cS ad adK adV) (q_A (gX D cI cJ cS ad adK adV) s.heap.size) s σ H locs → lv_has ls 7 [(0, .ref (ad 0)), (1, .int p1), (2, .int p2), (4, .int v4), (5, .int v5)] → fX8_bars_c45 p1 p2 n v4 v5 σ = some out → W p l e { frames := 3, cells := 0, slots := 0, locals := 78 } s m args below meth c H locs 0 0 (MQ below (q_Ri (gX D cI cJ cS ad adK adV) (q_A (gX D cI cJ cS ad adK adV) s.heap.size) out) args s 0 0 (q_A (gX D cI cJ cS ad adK adV) s.heap.size)) (F0 m 45 ls []) := by
  obtain ⟨hx, hb, hml, hown, hts⟩ := id C0
  intro n
  induction n with
  | zero =>
    intro v4 v5 σ H locs ls  hw hl h
    cases (show (none : Option (Int32 × q_M)) = some out from h)
  | succ n hrec45 =>
    intro v4 v5 σ H locs ls  hw hl h
    replace h : fX8_bars_c45b p1 p2 (fX8_bars_c45 p1 p2 n) v4 v5 σ = some out := h
    unfold fX8_bars_c45b at h
    refine lv_iload hx hb dX8_bars_45 (lv_at hl 4 rfl) ?_
    refine lv_aload_n hx hb dX8_bars_47 rfl (lv_at hl 0 rfl) ?_
    refine gt_X8_0 C0 hw xF_0 iX8_bars_X8 (by decide +kernel) dX8_bars_48 ?_
    refine gt_X2_2 C0 hw xF_1 iX8_bars_X2 (by decide +kernel) dX8_bars_51 ?_
    refine lv_icmp_ge (tgt := 143) hx hb dX8_bars_54 (by decide) (fun c1 => ?_) (fun c1 => ?_)
    · replace h := q_t h c1
      refine lv_iload hx hb dX8_bars_143 (lv_at hl 3 rfl) ?_
      exact q_iret h C0 hr hlk hw dX8_bars_145
    · replace h := q_f h c1
      refine lv_iload hx hb dX8_bars_57 (lv_at hl 4 rfl) ?_
      refine lv_iload_n hx hb dX8_bars_59 rfl (lv_at hl 2 rfl) ?_
      refine lv_icmp_eq (tgt := 79) hx hb dX8_bars_60 (by decide) (fun c2 => ?_) (fun c2 => ?_)
      · replace h := q_t h c2
        refine lv_iconst (v := (0 : Int32)) hx hb dX8_bars_79 (by decide) ?_
        exact tX8_bars_c80 C0 hr hlk hrec45 v4 v5 (0 : Int32) σ _ _ _ hw (lv_sub hl [0, 1, 2, 3, 4] rfl) h
      · replace h := q_f h c2
        refine lv_aload_n hx hb dX8_bars_63 rfl (lv_at hl 0 rfl) ?_
        refine gt_X8_0 C0 hw xF_0 iX8_bars_X8 (by decide +kernel) dX8_bars_64 ?_
        refine lv_iload hx hb dX8_bars_67 (lv_at hl 4 rfl) ?_
        obtain ⟨o3, hco3, h⟩ := q_bind h
        refine q_calli hw (va_runV (As := [.int v5]) (rest := []) C0 (kX2_isOff xF_1 hco3 _) (cwV 1 hts gX8_bars_X2_isOff rfl rfl rfl eX2_isOff ⟨(Nat.le_of_ble_eq_true rfl), (Nat.le_of_ble_eq_true rfl)⟩) ⟨q_blind, q_recv hw (xN_1 xF_1) (xE_1 xF_1) rfl, q_pre hw⟩ rfl rfl hl.1 rfl (lv_room (Nat.le_of_ble_eq_true rfl)) dX8_bars_69 ⟨Nat.zero_le _, Nat.zero_le _⟩) (fun H locs hw => ?_)
        refine lv_if_ne (tgt := 79) hx hb dX8_bars_72 (by decide) (fun c4 => ?_) (fun c4 => ?_)
        · replace h := q_f h c4
          refine lv_iconst (v := (0 : Int32)) hx hb dX8_bars_79 (by decide) ?_
          exact tX8_bars_c80 C0 hr hlk hrec45 v4 v5 (0 : Int32) o3.2 _ _ _ hw (lv_sub hl [0, 1, 2, 3, 4] rfl) h
        · replace h := q_t h c4
          refine lv_iconst (v := (1 : Int32)) hx hb dX8_bars_75 (by decide) ?_
          refine lv_goto (tgt := 80) hx hb dX8_bars_76 (by decide) ?_
          exact tX8_bars_c80 C0 hr hlk hrec45 v4 v5 (1 : Int32) o3.2 _ _ _ hw (lv_sub hl [0, 1, 2, 3, 4] rfl) h
set_option maxHeartbeats 4000000 in
set_option maxRecDepth 100000 in
theorem tX8_bars_c29 {p1 : Int32} {p2 : Int32}  (C0 : CallFix p m c cX8_bars 7 s args wsX8_bars RX8) (hr : meth.sig.returnType = (some .int)) (hlk : meth.locks = false) {out : Int32 × q_M}  : ∀ (v3 : Int32) (σ : q_M) (H : Heap) (locs : List Loc) (ls : Array Slot), q_H (gX D cI cJ cS ad adK adV) (q_A (gX D cI cJ cS ad adK adV) s.heap.size) s σ H locs → lv_has ls 7 [(0, .ref (ad 0)), (1, .int p1), (2, .int p2), (3, .int v3)] → fX8_bars_c29 p1 p2 v3 σ = some out → W p l e { frames := 3, cells := 0, slots := 0, locals := 78 } s m args below meth c H locs 0 0 (MQ below (q_Ri (gX D cI cJ cS ad adK adV) (q_A (gX D cI cJ cS ad adK adV) s.heap.size) out) args s 0 0 (q_A (gX D cI cJ cS ad adK adV) s.heap.size)) (F0 m 29 ls []) := by
  obtain ⟨hx, hb, hml, hown, hts⟩ := id C0
  intro v3 σ H locs ls  hw hl h
  unfold fX8_bars_c29 at h
  refine lv_iload_n hx hb dX8_bars_29 rfl (lv_at hl 3 rfl) ?_
  refine lv_if_eq (tgt := 39) hx hb dX8_bars_30 (by decide) (fun c1 => ?_) (fun c1 => ?_)
  · replace h := q_t h c1
    refine lv_iconst (v := (0 : Int32)) hx hb dX8_bars_39 (by decide) ?_
    refine lv_istore (lv' := [(4, .int (0 : Int32)), (0, .ref (ad 0)), (1, .int p1), (2, .int p2), (3, .int v3)]) hx hb dX8_bars_40 hl (by decide) rfl (fun ls hl => ?_)
    refine lv_iconst (v := (0 : Int32)) hx hb dX8_bars_42 (by decide) ?_
    refine lv_istore (lv' := [(5, .int (0 : Int32)), (4, .int (0 : Int32)), (0, .ref (ad 0)), (1, .int p1), (2, .int p2), (3, .int v3)]) hx hb dX8_bars_43 hl (by decide) rfl (fun ls hl => ?_)
    exact tX8_bars_c45 C0 hr hlk q_FU (0 : Int32) (0 : Int32) σ _ _ _ hw (lv_sub hl [2, 3, 4, 1, 0] rfl) h
  · replace h := q_f h c1
    refine lv_aload_n hx hb dX8_bars_33 rfl (lv_at hl 0 rfl) ?_
    refine lv_iload_n hx hb dX8_bars_34 rfl (lv_at hl 3 rfl) ?_
    obtain ⟨o2, hco2, h⟩ := q_bind h
    refine q_calli hw (va_runV (As := [.int v3]) (rest := []) C0 (kX8_refuse hco2 _) (cwV 1 hts gX8_bars_X8_refuse rfl rfl rfl eX8_refuse ⟨(Nat.le_of_ble_eq_true rfl), (Nat.le_of_ble_eq_true rfl)⟩) ⟨q_blind, q_recv hw (xN_0 xF_0) (xE_0 xF_0) rfl, q_pre hw⟩ rfl rfl hl.1 rfl (lv_room (Nat.le_of_ble_eq_true rfl)) dX8_bars_35 ⟨Nat.zero_le _, Nat.zero_le _⟩) (fun H locs hw => ?_)
    exact q_iret h C0 hr hlk hw dX8_bars_38
set_option maxHeartbeats 4000000 in
set_option maxRecDepth 100000 in
theorem tX8_bars_c18 {p1 : Int32} {p2 : Int32}  (C0 : CallFix p m c cX8_bars 7 s args wsX8_bars RX8) (hr : meth.sig.returnType = (some .int)) (hlk : meth.locks = false) {out : Int32 × q_M}  : ∀ (s0 : Int32) (σ : q_M) (H : Heap) (locs : List Loc) (ls : Array Slot), q_H (gX D cI cJ cS ad adK adV) (q_A (gX D cI cJ cS ad adK adV) s.heap.size) s σ H locs → lv_has ls 7 [(0, .ref (ad 0)), (1, .int p1), (2, .int p2)] → fX8_bars_c18 p1 p2 s0 σ = some out → W p l e { frames := 3, cells := 0, slots := 0, locals := 78 } s m args below meth c H locs 0 0 (MQ below (q_Ri (gX D cI cJ cS ad adK adV) (q_A (gX D cI cJ cS ad adK adV) s.heap.size) out) args s 0 0 (q_A (gX D cI cJ cS ad adK adV) s.heap.size)) (F0 m 18 ls [.int s0]) := by
  obtain ⟨hx, hb, hml, hown, hts⟩ := id C0
  intro s0 σ H locs ls  hw hl h
  unfold fX8_bars_c18 at h
  refine lv_istore_n (lv' := [(3, .int s0), (0, .ref (ad 0)), (1, .int p1), (2, .int p2)]) hx hb dX8_bars_18 rfl hl (by decide) rfl (fun ls hl => ?_)
  refine lv_iload_n hx hb dX8_bars_19 rfl (lv_at hl 0 rfl) ?_
  refine lv_if_ne (tgt := 29) hx hb dX8_bars_20 (by decide) (fun c1 => ?_) (fun c1 => ?_)
  · replace h := q_f h c1
    exact tX8_bars_c29 C0 hr hlk s0 σ _ _ _ hw (lv_sub hl [1, 2, 3, 0] rfl) h
  · replace h := q_t h c1
    refine lv_aload_n hx hb dX8_bars_23 rfl (lv_at hl 1 rfl) ?_
    refine lv_iload_n hx hb dX8_bars_24 rfl (lv_at hl 3 rfl) ?_
    obtain ⟨o2, hco2, h⟩ := q_bind h
    refine q_calli hw (va_runV (As := [.int p2]) (rest := []) C0 (kX8_onPieceRefusal hco2 _) (cwV 1 hts gX8_bars_X8_onPieceRefusal rfl rfl rfl eX8_onPieceRefusal ⟨(Nat.le_of_ble_eq_true rfl), (Nat.le_of_ble_eq_true rfl)⟩) ⟨q_blind, q_recv hw (xN_0 xF_0) (xE_0 xF_0) rfl, q_pre hw⟩ rfl rfl hl.1 rfl (lv_room (Nat.le_of_ble_eq_true rfl)) dX8_bars_25 ⟨Nat.zero_le _, Nat.zero_le _⟩) (fun H locs hw => ?_)
    refine lv_istore_n (lv' := [(3, .int o2.1), (0, .ref (ad 0)), (1, .int p1), (2, .int p2)]) hx hb dX8_bars_28 rfl hl (by decide) rfl (fun ls hl => ?_)
    exact tX8_bars_c29 C0 hr hlk o2.1 o2.2 _ _ _ hw (lv_sub hl [1, 2, 3, 0] rfl) h
set_option maxHeartbeats 4000000 in
set_option maxRecDepth 100000 in
theorem kX8_bars {p1 : Int32} {p2 : Int32}  {σ : q_M} {out : Int32 × q_M} (h : fX8_bars p1 p2 σ = some out) : q_Mi l (gX D cI cJ cS ad adK adV) yX8_bars wsX8_bars { frames := 3, cells := 0, slots := 0, locals := 78 } [.ref (ad 0), .int p1, .int p2] σ out := by
  refine q_Mi_of (cc := cX8_bars) (maxL := 7) (ret := (some .int)) (by decide) rfl (Nat.le_of_ble_eq_true rfl) ?_
  intro p e s m below meth c ls C0 hr hlk hl hw
  obtain ⟨hx, hb, hml, hown, hts⟩ := id C0
  replace hl : lv_has ls 7 [(0, .ref (ad 0)), (1, .int p1), (2, .int p2)] := hl
  unfold fX8_bars at h
  refine lv_aload_n hx hb dX8_bars_0 rfl (lv_at hl 0 rfl) ?_
  refine lv_iload_n hx hb dX8_bars_1 rfl (lv_at hl 2 rfl) ?_
  obtain ⟨o1, hco1, h⟩ := q_bind h
  refine q_calli hw (va_runV (As := [.int p2]) (rest := []) C0 (kX8_isPiece hco1 _) (cwV 1 hts gX8_bars_X8_isPiece rfl rfl rfl eX8_isPiece ⟨(Nat.le_of_ble_eq_true rfl), (Nat.le_of_ble_eq_true rfl)⟩) ⟨q_blind, q_recv hw (xN_0 xF_0) (xE_0 xF_0) rfl, q_pre hw⟩ rfl rfl hl.1 rfl (lv_room (Nat.le_of_ble_eq_true rfl)) dX8_bars_2 ⟨Nat.zero_le _, Nat.zero_le _⟩) (fun H locs hw => ?_)
  refine lv_if_eq (tgt := 16) hx hb dX8_bars_5 (by decide) (fun c2 => ?_) (fun c2 => ?_)
  · replace h := q_t h c2
    refine lv_bipush (v := (-2 : Int32)) hx hb dX8_bars_16 (by decide) ?_
    exact tX8_bars_c18 C0 hr hlk (-2 : Int32) o1.2 _ _ _ hw (lv_sub hl [0, 1, 2] rfl) h
  · replace h := q_f h c2
    refine lv_aload_n hx hb dX8_bars_8 rfl (lv_at hl 0 rfl) ?_
    refine lv_iload_n hx hb dX8_bars_9 rfl (lv_at hl 1 rfl) ?_
    obtain ⟨o3, hco3, h⟩ := q_bind h
    refine q_calli hw (va_runV (As := [.int p1]) (rest := []) C0 (kX8_moveRefusal hco3 _) (cwV 1 hts gX8_bars_X8_moveRefusal rfl rfl rfl eX8_moveRefusal ⟨(Nat.le_of_ble_eq_true rfl), (Nat.le_of_ble_eq_true rfl)⟩) ⟨q_blind, q_recv hw (xN_0 xF_0) (xE_0 xF_0) rfl, q_pre hw⟩ rfl rfl hl.1 rfl (lv_room (Nat.le_of_ble_eq_true rfl)) dX8_bars_10 ⟨Nat.zero_le _, Nat.zero_le _⟩) (fun H locs hw => ?_)
    refine lv_goto (tgt := 18) hx hb dX8_bars_13 (by decide) ?_
    exact tX8_bars_c18 C0 hr hlk o3.1 o3.2 _ _ _ hw (lv_sub hl [0, 1, 2] rfl) h
-- X8_firstLoose firstLoose(I)I
theorem iX8_firstLoose_X2 : ∀ w ∈ wsX20, w ∈ wsX8_firstLoose := by decide +kernel
theorem iX8_firstLoose_X8 : ∀ w ∈ wsX80, w ∈ wsX8_firstLoose := by decide +kernel
set_option maxHeartbeats 4000000 in
set_option maxRecDepth 100000 in
theorem tX8_firstLoose_c2 {p1 : Int32}  (C0 : CallFix p m c cX8_firstLoose 3 s args wsX8_firstLoose RX8) (hr : meth.sig.returnType = (some .int)) (hlk : meth.locks = false) {out : Int32 × q_M}  : ∀ n : Nat, ∀ (v2 : Int32) (σ : q_M) (H : Heap) (locs : List Loc) (ls : Array Slot), q_H (gX D cI cJ cS ad adK adV) (q_A (gX D cI cJ cS ad adK adV) s.heap.size) s σ H locs → lv_has ls 3 [(0, .ref (ad 0)), (1, .int p1), (2, .int v2)] → fX8_firstLoose_c2 p1 n v2 σ = some out → W p l e { frames := 4, cells := 0, slots := 0, locals := 103 } s m args below meth c H locs 0 0 (MQ below (q_Ri (gX D cI cJ cS ad adK adV) (q_A (gX D cI cJ cS ad adK adV) s.heap.size) out) args s 0 0 (q_A (gX D cI cJ cS ad adK adV) s.heap.size)) (F0 m 2 ls []) := by
  obtain ⟨hx, hb, hml, hown, hts⟩ := id C0
  intro n
  induction n with
  | zero =>
    intro v2 σ H locs ls  hw hl h
    cases (show (none : Option (Int32 × q_M)) = some out from h)
  | succ n hrec2 =>
    intro v2 σ H locs ls  hw hl h
    replace h : fX8_firstLoose_c2b p1 (fX8_firstLoose_c2 p1 n) v2 σ = some out := h
    unfold fX8_firstLoose_c2b at h
    refine lv_iload_n hx hb dX8_firstLoose_2 rfl (lv_at hl 2 rfl) ?_
    refine lv_aload_n hx hb dX8_firstLoose_3 rfl (lv_at hl 0 rfl) ?_
    refine gt_X8_0 C0 hw xF_0 iX8_firstLoose_X8 (by decide +kernel) dX8_firstLoose_4 ?_
    refine gt_X2_2 C0 hw xF_1 iX8_firstLoose_X2 (by decide +kernel) dX8_firstLoose_7 ?_
    refine lv_icmp_ge (tgt := 39) hx hb dX8_firstLoose_10 (by decide) (fun c1 => ?_) (fun c1 => ?_)
    · replace h := q_t h c1
      refine lv_iconst (v := (-1 : Int32)) hx hb dX8_firstLoose_39 (by decide) ?_
      exact q_iret h C0 hr hlk hw dX8_firstLoose_40
    · replace h := q_f h c1
      refine lv_iload_n hx hb dX8_firstLoose_13 rfl (lv_at hl 1 rfl) ?_
      refine lv_iload_n hx hb dX8_firstLoose_14 rfl (lv_at hl 2 rfl) ?_
      refine q_ishr (v := (q_sr p1 v2)) C0 dX8_firstLoose_15 rfl ?_
      refine lv_iconst (v := (1 : Int32)) hx hb dX8_firstLoose_16 (by decide) ?_
      refine lv_iand hx hb dX8_firstLoose_17 ?_
      refine lv_if_ne (tgt := 33) hx hb dX8_firstLoose_18 (by decide) (fun c2 => ?_) (fun c2 => ?_)
      · replace h := q_f h c2
        refine lv_iinc (v := (v2 + (1 : Int32))) (lv' := [(2, .int (v2 + (1 : Int32))), (0, .ref (ad 0)), (1, .int p1)]) hx hb dX8_firstLoose_33 hl (k := 2) rfl rfl (by decide) rfl (fun ls hl => ?_)
        refine lv_goto (tgt := 2) hx hb dX8_firstLoose_36 (by decide) ?_
        exact hrec2 (v2 + (1 : Int32)) σ _ _ _ hw (lv_sub hl [1, 2, 0] rfl) h
      · replace h := q_t h c2
        refine lv_aload_n hx hb dX8_firstLoose_21 rfl (lv_at hl 0 rfl) ?_
        refine lv_iload_n hx hb dX8_firstLoose_22 rfl (lv_at hl 2 rfl) ?_
        refine lv_iload_n hx hb dX8_firstLoose_23 rfl (lv_at hl 1 rfl) ?_
        obtain ⟨o3, hco3, h⟩ := q_bind h
        refine q_calli hw (va_runV (As := [.int v2, .int p1]) (rest := []) C0 (kX8_looseBy hco3 _) (cwV 2 hts gX8_firstLoose_X8_looseBy rfl rfl rfl eX8_looseBy ⟨(Nat.le_of_ble_eq_true rfl), (Nat.le_of_ble_eq_true rfl)⟩) ⟨q_blind, q_recv hw (xN_0 xF_0) (xE_0 xF_0) rfl, q_pre hw⟩ rfl rfl hl.1 rfl (lv_room (Nat.le_of_ble_eq_true rfl)) dX8_firstLoose_24 ⟨Nat.zero_le _, Nat.zero_le _⟩) (fun H locs hw => ?_)
        refine lv_iconst (v := (-1 : Int32)) hx hb dX8_firstLoose_27 (by decide) ?_
        refine lv_icmp_eq (tgt := 33) hx hb dX8_firstLoose_28 (by decide) (fun c4 => ?_) (fun c4 => ?_)
        · replace h := q_t h c4
          refine lv_iinc (v := (v2 + (1 : Int32))) (lv' := [(2, .int (v2 + (1 : Int32))), (0, .ref (ad 0)), (1, .int p1)]) hx hb dX8_firstLoose_33 hl (k := 2) rfl rfl (by decide) rfl (fun ls hl => ?_)
          refine lv_goto (tgt := 2) hx hb dX8_firstLoose_36 (by decide) ?_
          exact hrec2 (v2 + (1 : Int32)) o3.2 _ _ _ hw (lv_sub hl [1, 2, 0] rfl) h
        · replace h := q_f h c4
          refine lv_iload_n hx hb dX8_firstLoose_31 rfl (lv_at hl 2 rfl) ?_
          exact q_iret h C0 hr hlk hw dX8_firstLoose_32
set_option maxHeartbeats 4000000 in
set_option maxRecDepth 100000 in
theorem kX8_firstLoose {p1 : Int32}  {σ : q_M} {out : Int32 × q_M} (h : fX8_firstLoose p1 σ = some out) : q_Mi l (gX D cI cJ cS ad adK adV) yX8_firstLoose wsX8_firstLoose { frames := 4, cells := 0, slots := 0, locals := 103 } [.ref (ad 0), .int p1] σ out := by
  refine q_Mi_of (cc := cX8_firstLoose) (maxL := 3) (ret := (some .int)) (by decide) rfl (Nat.le_of_ble_eq_true rfl) ?_
  intro p e s m below meth c ls C0 hr hlk hl hw
  obtain ⟨hx, hb, hml, hown, hts⟩ := id C0
  replace hl : lv_has ls 3 [(0, .ref (ad 0)), (1, .int p1)] := hl
  unfold fX8_firstLoose at h
  refine lv_iconst (v := (0 : Int32)) hx hb dX8_firstLoose_0 (by decide) ?_
  refine lv_istore_n (lv' := [(2, .int (0 : Int32)), (0, .ref (ad 0)), (1, .int p1)]) hx hb dX8_firstLoose_1 rfl hl (by decide) rfl (fun ls hl => ?_)
  exact tX8_firstLoose_c2 C0 hr hlk q_FU (0 : Int32) σ _ _ _ hw (lv_sub hl [1, 2, 0] rfl) h
-- X8_findOrder findOrder()V
theorem iX8_findOrder_X2 : ∀ w ∈ wsX20, w ∈ wsX8_findOrder := by decide +kernel
theorem iX8_findOrder_X8 : ∀ w ∈ wsX80, w ∈ wsX8_findOrder := by decide +kernel
theorem eX8_firstLoose : yX8_firstLoose.cls = RX8 ∧ yX8_firstLoose.cls ≠ "java/lang/invoke/MethodHandle" ∧ yX8_firstLoose.cls ≠ "java/lang/invoke/VarHandle" ∧ (parseMethodDescriptor yX8_firstLoose.desc).map (fun d => d.parameters.length) = some 1 := by decide +kernel
set_option maxHeartbeats 4000000 in
set_option maxRecDepth 100000 in
theorem tX8_findOrder_c73   (C0 : CallFix p m c cX8_findOrder 4 s args wsX8_findOrder RX8) (hr : meth.sig.returnType = none) (hlk : meth.locks = false) {out : q_M}  : ∀ (v1 : Int32) (σ : q_M) (H : Heap) (locs : List Loc) (ls : Array Slot), q_H (gX D cI cJ cS ad adK adV) (q_A (gX D cI cJ cS ad adK adV) s.heap.size) s σ H locs → lv_has ls 4 [(0, .ref (ad 0)), (1, .int v1)] → fX8_findOrder_c73  v1 σ = some out → W p l e { frames := 5, cells := 0, slots := 0, locals := 125 } s m args below meth c H locs 0 0 (MQ below (q_Rv (gX D cI cJ cS ad adK adV) (q_A (gX D cI cJ cS ad adK adV) s.heap.size) out) args s 0 0 (q_A (gX D cI cJ cS ad adK adV) s.heap.size)) (F0 m 73 ls []) := by
  obtain ⟨hx, hb, hml, hown, hts⟩ := id C0
  intro v1 σ H locs ls  hw hl h
  unfold fX8_findOrder_c73 at h
  refine lv_aload_n hx hb dX8_findOrder_73 rfl (lv_at hl 0 rfl) ?_
  refine lv_iconst (v := (1 : Int32)) hx hb dX8_findOrder_74 (by decide) ?_
  refine lv_aload_n hx hb dX8_findOrder_75 rfl (lv_at hl 0 rfl) ?_
  refine gt_X8_0 C0 hw xF_0 iX8_findOrder_X8 (by decide +kernel) dX8_findOrder_76 ?_
  refine gt_X2_2 C0 hw xF_1 iX8_findOrder_X2 (by decide +kernel) dX8_findOrder_79 ?_
  refine q_ishl (v := (q_sl (1 : Int32) (σ.1 1 2))) C0 dX8_findOrder_82 rfl ?_
  refine lv_iconst (v := (1 : Int32)) hx hb dX8_findOrder_83 (by decide) ?_
  refine lv_isub hx hb dX8_findOrder_84 ?_
  refine lv_iload_n hx hb dX8_findOrder_85 rfl (lv_at hl 1 rfl) ?_
  refine lv_iconst (v := (-1 : Int32)) hx hb dX8_findOrder_86 (by decide) ?_
  refine lv_ixor hx hb dX8_findOrder_87 ?_
  refine lv_iand hx hb dX8_findOrder_88 ?_
  refine pt_X8_11 C0 hw xF_0 iX8_findOrder_X8 (by decide +kernel) dX8_findOrder_89 (fun σ1 H locs e_σ1 hw => ?_)
  replace h := q_let_at e_σ1 h
  exact q_vret h C0 hr hlk hw dX8_findOrder_92
set_option maxHeartbeats 4000000 in
set_option maxRecDepth 100000 in
theorem tX8_findOrder_c15   (C0 : CallFix p m c cX8_findOrder 4 s args wsX8_findOrder RX8) (hr : meth.sig.returnType = none) (hlk : meth.locks = false) {out : q_M}  : ∀ n : Nat, ∀ (v1 : Int32) (v2 : Int32) (σ : q_M) (H : Heap) (locs : List Loc) (ls : Array Slot), q_H (gX D cI cJ cS ad adK adV) (q_A (gX D cI cJ cS ad adK adV) s.heap.size) s σ H locs → lv_has ls 4 [(0, .ref (ad 0)), (1, .int v1), (2, .int v2)] → fX8_findOrder_c15  n v1 v2 σ = some out → W p l e { frames := 5, cells := 0, slots := 0, locals := 125 } s m args below meth c H locs 0 0 (MQ below (q_Rv (gX D cI cJ cS ad adK adV) (q_A (gX D cI cJ cS ad adK adV) s.heap.size) out) args s 0 0 (q_A (gX D cI cJ cS ad adK adV) s.heap.size)) (F0 m 15 ls []) := by
  obtain ⟨hx, hb, hml, hown, hts⟩ := id C0
  intro n
  induction n with
  | zero =>
    intro v1 v2 σ H locs ls  hw hl h
    cases (show (none : Option (q_M)) = some out from h)
  | succ n hrec15 =>
    intro v1 v2 σ H locs ls  hw hl h
    replace h : fX8_findOrder_c15b  (fX8_findOrder_c15  n) v1 v2 σ = some out := h
    unfold fX8_findOrder_c15b at h
    refine lv_iload_n hx hb dX8_findOrder_15 rfl (lv_at hl 2 rfl) ?_
    refine lv_bipush (v := (8 : Int32)) hx hb dX8_findOrder_16 (by decide) ?_
    refine lv_icmp_ge (tgt := 73) hx hb dX8_findOrder_18 (by decide) (fun c1 => ?_) (fun c1 => ?_)
    · replace h := q_t h c1
      exact tX8_findOrder_c73 C0 hr hlk v1 σ _ _ _ hw (lv_sub hl [0, 1] rfl) h
    · replace h := q_f h c1
      refine lv_aload_n hx hb dX8_findOrder_21 rfl (lv_at hl 0 rfl) ?_
      refine lv_iload_n hx hb dX8_findOrder_22 rfl (lv_at hl 1 rfl) ?_
      obtain ⟨o2, hco2, h⟩ := q_bind h
      refine q_calli hw (va_runV (As := [.int v1]) (rest := []) C0 (kX8_firstLoose hco2 _) (cwV 1 hts gX8_findOrder_X8_firstLoose rfl rfl rfl eX8_firstLoose ⟨(Nat.le_of_ble_eq_true rfl), (Nat.le_of_ble_eq_true rfl)⟩) ⟨q_blind, q_recv hw (xN_0 xF_0) (xE_0 xF_0) rfl, q_pre hw⟩ rfl rfl hl.1 rfl (lv_room (Nat.le_of_ble_eq_true rfl)) dX8_findOrder_23 ⟨Nat.zero_le _, Nat.zero_le _⟩) (fun H locs hw => ?_)
      refine lv_istore_n (lv' := [(3, .int o2.1), (0, .ref (ad 0)), (1, .int v1), (2, .int v2)]) hx hb dX8_findOrder_26 rfl hl (by decide) rfl (fun ls hl => ?_)
      refine lv_iload_n hx hb dX8_findOrder_27 rfl (lv_at hl 0 rfl) ?_
      refine lv_iconst (v := (-1 : Int32)) hx hb dX8_findOrder_28 (by decide) ?_
      refine lv_icmp_ne (tgt := 35) hx hb dX8_findOrder_29 (by decide) (fun c3 => ?_) (fun c3 => ?_)
      · replace h := q_f h c3
        refine lv_aload_n hx hb dX8_findOrder_35 rfl (lv_at hl 1 rfl) ?_
        refine gt_X8_8 C0 hw xF_0 iX8_findOrder_X8 (by decide +kernel) dX8_findOrder_36 ?_
        refine lv_iload_n hx hb dX8_findOrder_39 rfl (lv_at hl 3 rfl) ?_
        refine lv_iload_n hx hb dX8_findOrder_40 rfl (lv_at hl 0 rfl) ?_
        obtain ⟨b4, h⟩ := q_if h
        refine q_iast (t0 := 0) C0 hw (xN_14 xF_29) (xE_14 xF_29) rfl b4 dX8_findOrder_41 (fun σ5 H locs e_σ5 hw => ?_)
        replace h := q_let_at e_σ5 h
        refine lv_aload_n hx hb dX8_findOrder_42 rfl (lv_at hl 1 rfl) ?_
        refine gt_X8_9 C0 hw xF_0 iX8_findOrder_X8 (by decide +kernel) dX8_findOrder_43 ?_
        refine lv_iload_n hx hb dX8_findOrder_46 rfl (lv_at hl 3 rfl) ?_
        refine lv_aload_n hx hb dX8_findOrder_47 rfl (lv_at hl 1 rfl) ?_
        refine lv_iload_n hx hb dX8_findOrder_48 rfl (lv_at hl 0 rfl) ?_
        refine lv_iload_n hx hb dX8_findOrder_49 rfl (lv_at hl 2 rfl) ?_
        obtain ⟨o6, hco6, h⟩ := q_bind h
        refine q_calli hw (va_runV (As := [.int o2.1, .int v1]) (rest := [.int v2, .ref (ad 30)]) C0 (kX8_looseBy hco6 _) (cwV 2 hts gX8_findOrder_X8_looseBy rfl rfl rfl eX8_looseBy ⟨(Nat.le_of_ble_eq_true rfl), (Nat.le_of_ble_eq_true rfl)⟩) ⟨q_blind, q_recv hw (xN_0 xF_0) (xE_0 xF_0) rfl, q_pre hw⟩ rfl rfl hl.1 rfl (lv_room (Nat.le_of_ble_eq_true rfl)) dX8_findOrder_50 ⟨Nat.zero_le _, Nat.zero_le _⟩) (fun H locs hw => ?_)
        obtain ⟨b7, h⟩ := q_if h
        refine q_iast (t0 := 0) C0 hw (xN_14 xF_30) (xE_14 xF_30) rfl b7 dX8_findOrder_53 (fun σ8 H locs e_σ8 hw => ?_)
        replace h := q_let_at e_σ8 h
        refine lv_aload_n hx hb dX8_findOrder_54 rfl (lv_at hl 1 rfl) ?_
        refine lv_iload_n hx hb dX8_findOrder_55 rfl (lv_at hl 3 rfl) ?_
        refine lv_iconst (v := (1 : Int32)) hx hb dX8_findOrder_56 (by decide) ?_
        refine lv_iadd hx hb dX8_findOrder_57 ?_
        refine pt_X8_10 C0 hw xF_0 iX8_findOrder_X8 (by decide +kernel) dX8_findOrder_58 (fun σ9 H locs e_σ9 hw => ?_)
        replace h := q_let_at e_σ9 h
        refine lv_iload_n hx hb dX8_findOrder_61 rfl (lv_at hl 2 rfl) ?_
        refine lv_iconst (v := (1 : Int32)) hx hb dX8_findOrder_62 (by decide) ?_
        refine lv_iload_n hx hb dX8_findOrder_63 rfl (lv_at hl 0 rfl) ?_
        refine q_ishl (v := (q_sl (1 : Int32) o2.1)) C0 dX8_findOrder_64 rfl ?_
        refine lv_ior hx hb dX8_findOrder_65 ?_
        refine lv_topi (fun x10 e_x10 => ?_)
        replace h := q_let_at e_x10 h
        refine lv_istore_n (lv' := [(1, .int x10), (3, .int o2.1), (0, .ref (ad 0)), (2, .int v2)]) hx hb dX8_findOrder_66 rfl hl (by decide) rfl (fun ls hl => ?_)
        refine lv_iinc (v := (v2 + (1 : Int32))) (lv' := [(2, .int (v2 + (1 : Int32))), (1, .int x10), (3, .int o2.1), (0, .ref (ad 0))]) hx hb dX8_findOrder_67 hl (k := 3) rfl rfl (by decide) rfl (fun ls hl => ?_)
        refine lv_goto (tgt := 15) hx hb dX8_findOrder_70 (by decide) ?_
        exact hrec15 x10 (v2 + (1 : Int32)) σ9 _ _ _ hw (lv_sub hl [3, 1, 0] rfl) h
      · replace h := q_t h c3
        refine lv_goto (tgt := 73) hx hb dX8_findOrder_32 (by decide) ?_
        exact tX8_findOrder_c73 C0 hr hlk v1 o2.2 _ _ _ hw (lv_sub hl [1, 2] rfl) h
set_option maxHeartbeats 4000000 in
set_option maxRecDepth 100000 in
theorem kX8_findOrder   {σ : q_M} {out : q_M} (h : fX8_findOrder  σ = some out) : q_Mv l (gX D cI cJ cS ad adK adV) yX8_findOrder wsX8_findOrder { frames := 5, cells := 0, slots := 0, locals := 125 } [.ref (ad 0)] σ out := by
  refine q_Mv_of (cc := cX8_findOrder) (maxL := 4) (ret := none) (by decide) rfl (Nat.le_of_ble_eq_true rfl) ?_
  intro p e s m below meth c ls C0 hr hlk hl hw
  obtain ⟨hx, hb, hml, hown, hts⟩ := id C0
  replace hl : lv_has ls 4 [(0, .ref (ad 0))] := hl
  unfold fX8_findOrder at h
  refine lv_aload_n hx hb dX8_findOrder_0 rfl (lv_at hl 0 rfl) ?_
  refine gt_X8_0 C0 hw xF_0 iX8_findOrder_X8 (by decide +kernel) dX8_findOrder_1 ?_
  refine gt_X2_3 C0 hw xF_1 iX8_findOrder_X2 (by decide +kernel) dX8_findOrder_4 ?_
  refine lv_istore_n (lv' := [(1, .int (σ.1 1 3)), (0, .ref (ad 0))]) hx hb dX8_findOrder_7 rfl hl (by decide) rfl (fun ls hl => ?_)
  refine lv_aload_n hx hb dX8_findOrder_8 rfl (lv_at hl 1 rfl) ?_
  refine lv_iconst (v := (0 : Int32)) hx hb dX8_findOrder_9 (by decide) ?_
  refine pt_X8_10 C0 hw xF_0 iX8_findOrder_X8 (by decide +kernel) dX8_findOrder_10 (fun σ1 H locs e_σ1 hw => ?_)
  replace h := q_let_at e_σ1 h
  refine lv_iconst (v := (0 : Int32)) hx hb dX8_findOrder_13 (by decide) ?_
  refine lv_istore_n (lv' := [(2, .int (0 : Int32)), (1, .int (σ.1 1 3)), (0, .ref (ad 0))]) hx hb dX8_findOrder_14 rfl hl (by decide) rfl (fun ls hl => ?_)
  exact tX8_findOrder_c15 C0 hr hlk q_FU (σ.1 1 3) (0 : Int32) σ1 _ _ _ hw (lv_sub hl [2, 1, 0] rfl) h
-- X8_order order(II)I
theorem iX8_order_X8 : ∀ w ∈ wsX80, w ∈ wsX8_order := by decide +kernel
theorem eX8_findOrder : yX8_findOrder.cls = RX8 ∧ yX8_findOrder.cls ≠ "java/lang/invoke/MethodHandle" ∧ yX8_findOrder.cls ≠ "java/lang/invoke/VarHandle" ∧ (parseMethodDescriptor yX8_findOrder.desc).map (fun d => d.parameters.length) = some 0 := by decide +kernel
set_option maxHeartbeats 4000000 in
set_option maxRecDepth 100000 in
theorem kX8_order {p1 : Int32} {p2 : Int32}  {σ : q_M} {out : Int32 × q_M} (h : fX8_order p1 p2 σ = some out) : q_Mi l (gX D cI cJ cS ad adK adV) yX8_order wsX8_order { frames := 6, cells := 0, slots := 0, locals := 148 } [.ref (ad 0), .int p1, .int p2] σ out := by
  refine q_Mi_of (cc := cX8_order) (maxL := 3) (ret := (some .int)) (by decide) rfl (Nat.le_of_ble_eq_true rfl) ?_
  intro p e s m below meth c ls C0 hr hlk hl hw
  obtain ⟨hx, hb, hml, hown, hts⟩ := id C0
  replace hl : lv_has ls 3 [(0, .ref (ad 0)), (1, .int p1), (2, .int p2)] := hl
  unfold fX8_order at h
  refine lv_iload_n hx hb dX8_order_0 rfl (lv_at hl 2 rfl) ?_
  refine lv_if_lt (tgt := 9) hx hb dX8_order_1 (by decide) (fun c1 => ?_) (fun c1 => ?_)
  · replace h := q_t h c1
    refine lv_aload_n hx hb dX8_order_9 rfl (lv_at hl 0 rfl) ?_
    refine lv_bipush (v := (-2 : Int32)) hx hb dX8_order_10 (by decide) ?_
    obtain ⟨o2, hco2, h⟩ := q_bind h
    refine q_calli hw (va_runV (As := [.int (-2 : Int32)]) (rest := []) C0 (kX8_refuse hco2 _) (cwV 1 hts gX8_order_X8_refuse rfl rfl rfl eX8_refuse ⟨(Nat.le_of_ble_eq_true rfl), (Nat.le_of_ble_eq_true rfl)⟩) ⟨q_blind, q_recv hw (xN_0 xF_0) (xE_0 xF_0) rfl, q_pre hw⟩ rfl rfl hl.1 rfl (lv_room (Nat.le_of_ble_eq_true rfl)) dX8_order_12 ⟨Nat.zero_le _, Nat.zero_le _⟩) (fun H locs hw => ?_)
    exact q_iret h C0 hr hlk hw dX8_order_15
  · replace h := q_f h c1
    refine lv_iload_n hx hb dX8_order_4 rfl (lv_at hl 2 rfl) ?_
    refine lv_iconst (v := (1 : Int32)) hx hb dX8_order_5 (by decide) ?_
    refine lv_icmp_le (tgt := 16) hx hb dX8_order_6 (by decide) (fun c3 => ?_) (fun c3 => ?_)
    · replace h := q_t h c3
      refine lv_aload_n hx hb dX8_order_16 rfl (lv_at hl 0 rfl) ?_
      obtain ⟨o4, hco4, h⟩ := q_bind h
      refine q_callv hw (va_runV (As := []) (rest := []) C0 (kX8_findOrder hco4 _) (cwV 0 hts gX8_order_X8_findOrder rfl rfl rfl eX8_findOrder ⟨(Nat.le_of_ble_eq_true rfl), (Nat.le_of_ble_eq_true rfl)⟩) ⟨q_blind, q_recv hw (xN_0 xF_0) (xE_0 xF_0) rfl, q_pre hw⟩ rfl rfl hl.1 rfl (lv_room (Nat.le_of_ble_eq_true rfl)) dX8_order_17 ⟨Nat.zero_le _, Nat.zero_le _⟩) (fun H locs hw => ?_)
      refine lv_iload_n hx hb dX8_order_20 rfl (lv_at hl 1 rfl) ?_
      refine lv_if_lt (tgt := 32) hx hb dX8_order_21 (by decide) (fun c5 => ?_) (fun c5 => ?_)
      · replace h := q_t h c5
        refine lv_iconst (v := (-1 : Int32)) hx hb dX8_order_32 (by decide) ?_
        exact q_iret h C0 hr hlk hw dX8_order_33
      · replace h := q_f h c5
        refine lv_iload_n hx hb dX8_order_24 rfl (lv_at hl 1 rfl) ?_
        refine lv_aload_n hx hb dX8_order_25 rfl (lv_at hl 0 rfl) ?_
        refine gt_X8_10 C0 hw xF_0 iX8_order_X8 (by decide +kernel) dX8_order_26 ?_
        refine lv_icmp_lt (tgt := 34) hx hb dX8_order_29 (by decide) (fun c6 => ?_) (fun c6 => ?_)
        · replace h := q_t h c6
          refine lv_iload_n hx hb dX8_order_34 rfl (lv_at hl 2 rfl) ?_
          refine lv_if_ne (tgt := 47) hx hb dX8_order_35 (by decide) (fun c7 => ?_) (fun c7 => ?_)
          · replace h := q_f h c7
            refine lv_aload_n hx hb dX8_order_47 rfl (lv_at hl 0 rfl) ?_
            refine gt_X8_9 C0 hw xF_0 iX8_order_X8 (by decide +kernel) dX8_order_48 ?_
            refine lv_iload_n hx hb dX8_order_51 rfl (lv_at hl 1 rfl) ?_
            obtain ⟨b8, h⟩ := q_if h
            refine q_iald (t0 := 0) C0 hw (xN_14 xF_30) (xE_14 xF_30) rfl b8 dX8_order_52 ?_
            exact q_iret h C0 hr hlk hw dX8_order_53
          · replace h := q_t h c7
            refine lv_aload_n hx hb dX8_order_38 rfl (lv_at hl 0 rfl) ?_
            refine gt_X8_8 C0 hw xF_0 iX8_order_X8 (by decide +kernel) dX8_order_39 ?_
            refine lv_iload_n hx hb dX8_order_42 rfl (lv_at hl 1 rfl) ?_
            obtain ⟨b9, h⟩ := q_if h
            refine q_iald (t0 := 0) C0 hw (xN_14 xF_29) (xE_14 xF_29) rfl b9 dX8_order_43 ?_
            refine lv_goto (tgt := 53) hx hb dX8_order_44 (by decide) ?_
            exact q_iret h C0 hr hlk hw dX8_order_53
        · replace h := q_f h c6
          refine lv_iconst (v := (-1 : Int32)) hx hb dX8_order_32 (by decide) ?_
          exact q_iret h C0 hr hlk hw dX8_order_33
    · replace h := q_f h c3
      refine lv_aload_n hx hb dX8_order_9 rfl (lv_at hl 0 rfl) ?_
      refine lv_bipush (v := (-2 : Int32)) hx hb dX8_order_10 (by decide) ?_
      obtain ⟨o10, hco10, h⟩ := q_bind h
      refine q_calli hw (va_runV (As := [.int (-2 : Int32)]) (rest := []) C0 (kX8_refuse hco10 _) (cwV 1 hts gX8_order_X8_refuse rfl rfl rfl eX8_refuse ⟨(Nat.le_of_ble_eq_true rfl), (Nat.le_of_ble_eq_true rfl)⟩) ⟨q_blind, q_recv hw (xN_0 xF_0) (xE_0 xF_0) rfl, q_pre hw⟩ rfl rfl hl.1 rfl (lv_room (Nat.le_of_ble_eq_true rfl)) dX8_order_12 ⟨Nat.zero_le _, Nat.zero_le _⟩) (fun H locs hw => ?_)
      exact q_iret h C0 hr hlk hw dX8_order_15
-- X8_ring ring()I
theorem iX8_ring_X8 : ∀ w ∈ wsX80, w ∈ wsX8_ring := by decide +kernel
set_option maxHeartbeats 4000000 in
set_option maxRecDepth 100000 in
theorem kX8_ring   {σ : q_M} {out : Int32 × q_M} (h : fX8_ring  σ = some out) : q_Mi l (gX D cI cJ cS ad adK adV) yX8_ring wsX8_ring { frames := 6, cells := 0, slots := 0, locals := 148 } [.ref (ad 0)] σ out := by
  refine q_Mi_of (cc := cX8_ring) (maxL := 1) (ret := (some .int)) (by decide) rfl (Nat.le_of_ble_eq_true rfl) ?_
  intro p e s m below meth c ls C0 hr hlk hl hw
  obtain ⟨hx, hb, hml, hown, hts⟩ := id C0
  replace hl : lv_has ls 1 [(0, .ref (ad 0))] := hl
  unfold fX8_ring at h
  refine lv_aload_n hx hb dX8_ring_0 rfl (lv_at hl 0 rfl) ?_
  obtain ⟨o1, hco1, h⟩ := q_bind h
  refine q_callv hw (va_runV (As := []) (rest := []) C0 (kX8_findOrder hco1 _) (cwV 0 hts gX8_ring_X8_findOrder rfl rfl rfl eX8_findOrder ⟨(Nat.le_of_ble_eq_true rfl), (Nat.le_of_ble_eq_true rfl)⟩) ⟨q_blind, q_recv hw (xN_0 xF_0) (xE_0 xF_0) rfl, q_pre hw⟩ rfl rfl hl.1 rfl (lv_room (Nat.le_of_ble_eq_true rfl)) dX8_ring_1 ⟨Nat.zero_le _, Nat.zero_le _⟩) (fun H locs hw => ?_)
  refine lv_aload_n hx hb dX8_ring_4 rfl (lv_at hl 0 rfl) ?_
  refine gt_X8_11 C0 hw xF_0 iX8_ring_X8 (by decide +kernel) dX8_ring_5 ?_
  exact q_iret h C0 hr hlk hw dX8_ring_8
-- X8_isWaySet isWaySet(I)Z
set_option maxHeartbeats 4000000 in
set_option maxRecDepth 100000 in
theorem kX8_isWaySet {p0 : Int32}  {σ : q_M} {out : Int32 × q_M} (h : fX8_isWaySet p0 σ = some out) : q_Mi l (gX D cI cJ cS ad adK adV) yX8_isWaySet wsX8_isWaySet { frames := 0, cells := 0, slots := 0, locals := 0 } [.int p0] σ out := by
  refine q_Mi_of (cc := cX8_isWaySet) (maxL := 1) (ret := (some .boolean)) (by decide) rfl (Nat.le_of_ble_eq_true rfl) ?_
  intro p e s m below meth c ls C0 hr hlk hl hw
  obtain ⟨hx, hb, hml, hown, hts⟩ := id C0
  replace hl : lv_has ls 1 [(0, .int p0)] := hl
  unfold fX8_isWaySet at h
  refine lv_iload_n hx hb dX8_isWaySet_0 rfl (lv_at hl 0 rfl) ?_
  refine lv_if_lt (tgt := 14) hx hb dX8_isWaySet_1 (by decide) (fun c1 => ?_) (fun c1 => ?_)
  · replace h := q_t h c1
    refine lv_iconst (v := (0 : Int32)) hx hb dX8_isWaySet_14 (by decide) ?_
    exact q_zret h C0 hr rfl hlk hw dX8_isWaySet_15
  · replace h := q_f h c1
    refine lv_iload_n hx hb dX8_isWaySet_4 rfl (lv_at hl 0 rfl) ?_
    refine lv_bipush (v := (64 : Int32)) hx hb dX8_isWaySet_5 (by decide) ?_
    refine lv_icmp_ge (tgt := 14) hx hb dX8_isWaySet_7 (by decide) (fun c2 => ?_) (fun c2 => ?_)
    · replace h := q_t h c2
      refine lv_iconst (v := (0 : Int32)) hx hb dX8_isWaySet_14 (by decide) ?_
      exact q_zret h C0 hr rfl hlk hw dX8_isWaySet_15
    · replace h := q_f h c2
      refine lv_iconst (v := (1 : Int32)) hx hb dX8_isWaySet_10 (by decide) ?_
      refine lv_goto (tgt := 15) hx hb dX8_isWaySet_11 (by decide) ?_
      exact q_zret h C0 hr rfl hlk hw dX8_isWaySet_15
-- X8_serves serves(I)I
theorem eX8_isWaySet : yX8_isWaySet.cls ≠ "java/lang/invoke/MethodHandle" ∧ yX8_isWaySet.cls ≠ "java/lang/invoke/VarHandle" ∧ (parseMethodDescriptor yX8_isWaySet.desc).map (fun d => d.parameters.length) = some 1 := by decide +kernel
set_option maxHeartbeats 4000000 in
set_option maxRecDepth 100000 in
theorem kX8_serves {p1 : Int32}  {σ : q_M} {out : Int32 × q_M} (h : fX8_serves p1 σ = some out) : q_Mi l (gX D cI cJ cS ad adK adV) yX8_serves wsX8_serves { frames := 4, cells := 0, slots := 0, locals := 98 } [.ref (ad 0), .int p1] σ out := by
  refine q_Mi_of (cc := cX8_serves) (maxL := 2) (ret := (some .int)) (by decide) rfl (Nat.le_of_ble_eq_true rfl) ?_
  intro p e s m below meth c ls C0 hr hlk hl hw
  obtain ⟨hx, hb, hml, hown, hts⟩ := id C0
  replace hl : lv_has ls 2 [(0, .ref (ad 0)), (1, .int p1)] := hl
  unfold fX8_serves at h
  refine lv_iload_n hx hb dX8_serves_0 rfl (lv_at hl 1 rfl) ?_
  obtain ⟨o1, hco1, h⟩ := q_bind h
  refine q_calli hw (va_runS (As := [.int p1]) (rest := []) C0 (kX8_isWaySet hco1 _) (va_cwS 1 hts gX8_serves_X8_isWaySet rfl rfl rfl eX8_isWaySet ⟨(Nat.le_of_ble_eq_true rfl), (Nat.le_of_ble_eq_true rfl)⟩) ⟨q_blind, q_pre hw⟩ rfl rfl hl.1 rfl (lv_room (Nat.le_of_ble_eq_true rfl)) dX8_serves_1 ⟨Nat.zero_le _, Nat.zero_le _⟩) (fun H locs hw => ?_)
  refine lv_if_ne (tgt := 14) hx hb dX8_serves_4 (by decide) (fun c2 => ?_) (fun c2 => ?_)
  · replace h := q_f h c2
    refine lv_aload_n hx hb dX8_serves_14 rfl (lv_at hl 0 rfl) ?_
    obtain ⟨o3, hco3, h⟩ := q_bind h
    refine q_callr hw (va_runV (As := []) (rest := []) C0 (kX8_lookAtFigure hco3 _) (cwV 0 hts gX8_serves_X8_lookAtFigure rfl rfl rfl eX8_lookAtFigure ⟨(Nat.le_of_ble_eq_true rfl), (Nat.le_of_ble_eq_true rfl)⟩) ⟨q_blind, q_recv hw (xN_0 xF_0) (xE_0 xF_0) rfl, q_pre hw⟩ rfl rfl hl.1 rfl (lv_room (Nat.le_of_ble_eq_true rfl)) dX8_serves_15 ⟨Nat.zero_le _, Nat.zero_le _⟩) (fun H locs hw => ?_)
    refine lv_iload_n hx hb dX8_serves_18 rfl (lv_at hl 1 rfl) ?_
    obtain ⟨o4, hco4, h⟩ := q_bind h
    refine q_calli hw (va_runV (As := [.int p1]) (rest := []) C0 (kX1_suffices hco4 _) (cwV 1 hts gX8_serves_X1_suffices rfl rfl rfl eX1_suffices ⟨(Nat.le_of_ble_eq_true rfl), (Nat.le_of_ble_eq_true rfl)⟩) ⟨q_blind, q_recv hw (xN_11 xF_25) (xE_11 xF_25) rfl, q_pre hw⟩ rfl rfl hl.1 rfl (lv_room (Nat.le_of_ble_eq_true rfl)) dX8_serves_19 ⟨Nat.zero_le _, Nat.zero_le _⟩) (fun H locs hw => ?_)
    refine lv_if_eq (tgt := 29) hx hb dX8_serves_22 (by decide) (fun c5 => ?_) (fun c5 => ?_)
    · replace h := q_t h c5
      refine lv_iconst (v := (0 : Int32)) hx hb dX8_serves_29 (by decide) ?_
      exact q_iret h C0 hr hlk hw dX8_serves_30
    · replace h := q_f h c5
      refine lv_iconst (v := (1 : Int32)) hx hb dX8_serves_25 (by decide) ?_
      refine lv_goto (tgt := 30) hx hb dX8_serves_26 (by decide) ?_
      exact q_iret h C0 hr hlk hw dX8_serves_30
  · replace h := q_t h c2
    refine lv_aload_n hx hb dX8_serves_7 rfl (lv_at hl 0 rfl) ?_
    refine lv_bipush (v := (-2 : Int32)) hx hb dX8_serves_8 (by decide) ?_
    obtain ⟨o6, hco6, h⟩ := q_bind h
    refine q_calli hw (va_runV (As := [.int (-2 : Int32)]) (rest := []) C0 (kX8_refuse hco6 _) (cwV 1 hts gX8_serves_X8_refuse rfl rfl rfl eX8_refuse ⟨(Nat.le_of_ble_eq_true rfl), (Nat.le_of_ble_eq_true rfl)⟩) ⟨q_blind, q_recv hw (xN_0 xF_0) (xE_0 xF_0) rfl, q_pre hw⟩ rfl rfl hl.1 rfl (lv_room (Nat.le_of_ble_eq_true rfl)) dX8_serves_10 ⟨Nat.zero_le _, Nat.zero_le _⟩) (fun H locs hw => ?_)
    exact q_iret h C0 hr hlk hw dX8_serves_13
-- X8_fewest fewest()I
theorem eX1_fewestWays : yX1_fewestWays.cls = RX1 ∧ yX1_fewestWays.cls ≠ "java/lang/invoke/MethodHandle" ∧ yX1_fewestWays.cls ≠ "java/lang/invoke/VarHandle" ∧ (parseMethodDescriptor yX1_fewestWays.desc).map (fun d => d.parameters.length) = some 0 := by decide +kernel
set_option maxHeartbeats 4000000 in
set_option maxRecDepth 100000 in
theorem kX8_fewest   {σ : q_M} {out : Int32 × q_M} (h : fX8_fewest  σ = some out) : q_Mi l (gX D cI cJ cS ad adK adV) yX8_fewest wsX8_fewest { frames := 4, cells := 0, slots := 0, locals := 98 } [.ref (ad 0)] σ out := by
  refine q_Mi_of (cc := cX8_fewest) (maxL := 2) (ret := (some .int)) (by decide) rfl (Nat.le_of_ble_eq_true rfl) ?_
  intro p e s m below meth c ls C0 hr hlk hl hw
  obtain ⟨hx, hb, hml, hown, hts⟩ := id C0
  replace hl : lv_has ls 2 [(0, .ref (ad 0))] := hl
  unfold fX8_fewest at h
  refine lv_aload_n hx hb dX8_fewest_0 rfl (lv_at hl 0 rfl) ?_
  obtain ⟨o1, hco1, h⟩ := q_bind h
  refine q_callr hw (va_runV (As := []) (rest := []) C0 (kX8_lookAtFigure hco1 _) (cwV 0 hts gX8_fewest_X8_lookAtFigure rfl rfl rfl eX8_lookAtFigure ⟨(Nat.le_of_ble_eq_true rfl), (Nat.le_of_ble_eq_true rfl)⟩) ⟨q_blind, q_recv hw (xN_0 xF_0) (xE_0 xF_0) rfl, q_pre hw⟩ rfl rfl hl.1 rfl (lv_room (Nat.le_of_ble_eq_true rfl)) dX8_fewest_1 ⟨Nat.zero_le _, Nat.zero_le _⟩) (fun H locs hw => ?_)
  obtain ⟨o2, hco2, h⟩ := q_bind h
  refine q_calli hw (va_runV (As := []) (rest := []) C0 (kX1_fewestWays hco2 _) (cwV 0 hts gX8_fewest_X1_fewestWays rfl rfl rfl eX1_fewestWays ⟨(Nat.le_of_ble_eq_true rfl), (Nat.le_of_ble_eq_true rfl)⟩) ⟨q_blind, q_recv hw (xN_11 xF_25) (xE_11 xF_25) rfl, q_pre hw⟩ rfl rfl hl.1 rfl (lv_room (Nat.le_of_ble_eq_true rfl)) dX8_fewest_4 ⟨Nat.zero_le _, Nat.zero_le _⟩) (fun H locs hw => ?_)
  refine lv_istore_n (lv' := [(1, .int o2.1), (0, .ref (ad 0))]) hx hb dX8_fewest_7 rfl hl (by decide) rfl (fun ls hl => ?_)
  refine lv_iload_n hx hb dX8_fewest_8 rfl (lv_at hl 0 rfl) ?_
  refine lv_iconst (v := (-1 : Int32)) hx hb dX8_fewest_9 (by decide) ?_
  refine lv_icmp_ne (tgt := 22) hx hb dX8_fewest_10 (by decide) (fun c3 => ?_) (fun c3 => ?_)
  · replace h := q_f h c3
    refine lv_iload_n hx hb dX8_fewest_22 rfl (lv_at hl 0 rfl) ?_
    exact q_iret h C0 hr hlk hw dX8_fewest_23
  · replace h := q_t h c3
    refine lv_aload_n hx hb dX8_fewest_13 rfl (lv_at hl 1 rfl) ?_
    refine lv_bipush (v := (-5 : Int32)) hx hb dX8_fewest_14 (by decide) ?_
    obtain ⟨o4, hco4, h⟩ := q_bind h
    refine q_calli hw (va_runV (As := [.int (-5 : Int32)]) (rest := []) C0 (kX8_refuse hco4 _) (cwV 1 hts gX8_fewest_X8_refuse rfl rfl rfl eX8_refuse ⟨(Nat.le_of_ble_eq_true rfl), (Nat.le_of_ble_eq_true rfl)⟩) ⟨q_blind, q_recv hw (xN_0 xF_0) (xE_0 xF_0) rfl, q_pre hw⟩ rfl rfl hl.1 rfl (lv_room (Nat.le_of_ble_eq_true rfl)) dX8_fewest_16 ⟨Nat.zero_le _, Nat.zero_le _⟩) (fun H locs hw => ?_)
    refine lv_goto (tgt := 23) hx hb dX8_fewest_19 (by decide) ?_
    exact q_iret h C0 hr hlk hw dX8_fewest_23
-- X8_parted parted(II)I
theorem iX8_parted_X2 : ∀ w ∈ wsX20, w ∈ wsX8_parted := by decide +kernel
theorem iX8_parted_X8 : ∀ w ∈ wsX80, w ∈ wsX8_parted := by decide +kernel
theorem eX1_countOwnedParts : yX1_countOwnedParts.cls = RX1 ∧ yX1_countOwnedParts.cls ≠ "java/lang/invoke/MethodHandle" ∧ yX1_countOwnedParts.cls ≠ "java/lang/invoke/VarHandle" ∧ (parseMethodDescriptor yX1_countOwnedParts.desc).map (fun d => d.parameters.length) = some 1 := by decide +kernel
set_option maxHeartbeats 4000000 in
set_option maxRecDepth 100000 in
theorem kX8_parted {p1 : Int32} {p2 : Int32}  {σ : q_M} {out : Int32 × q_M} (h : fX8_parted p1 p2 σ = some out) : q_Mi l (gX D cI cJ cS ad adK adV) yX8_parted wsX8_parted { frames := 5, cells := 0, slots := 0, locals := 129 } [.ref (ad 0), .int p1, .int p2] σ out := by
  refine q_Mi_of (cc := cX8_parted) (maxL := 3) (ret := (some .int)) (by decide) rfl (Nat.le_of_ble_eq_true rfl) ?_
  intro p e s m below meth c ls C0 hr hlk hl hw
  obtain ⟨hx, hb, hml, hown, hts⟩ := id C0
  replace hl : lv_has ls 3 [(0, .ref (ad 0)), (1, .int p1), (2, .int p2)] := hl
  unfold fX8_parted at h
  refine lv_iload_n hx hb dX8_parted_0 rfl (lv_at hl 1 rfl) ?_
  obtain ⟨o1, hco1, h⟩ := q_bind h
  refine q_calli hw (va_runS (As := [.int p1]) (rest := []) C0 (kX8_isWaySet hco1 _) (va_cwS 1 hts gX8_parted_X8_isWaySet rfl rfl rfl eX8_isWaySet ⟨(Nat.le_of_ble_eq_true rfl), (Nat.le_of_ble_eq_true rfl)⟩) ⟨q_blind, q_pre hw⟩ rfl rfl hl.1 rfl (lv_room (Nat.le_of_ble_eq_true rfl)) dX8_parted_1 ⟨Nat.zero_le _, Nat.zero_le _⟩) (fun H locs hw => ?_)
  refine lv_if_eq (tgt := 16) hx hb dX8_parted_4 (by decide) (fun c2 => ?_) (fun c2 => ?_)
  · replace h := q_t h c2
    refine lv_aload_n hx hb dX8_parted_16 rfl (lv_at hl 0 rfl) ?_
    refine lv_bipush (v := (-2 : Int32)) hx hb dX8_parted_17 (by decide) ?_
    obtain ⟨o3, hco3, h⟩ := q_bind h
    refine q_calli hw (va_runV (As := [.int (-2 : Int32)]) (rest := []) C0 (kX8_refuse hco3 _) (cwV 1 hts gX8_parted_X8_refuse rfl rfl rfl eX8_refuse ⟨(Nat.le_of_ble_eq_true rfl), (Nat.le_of_ble_eq_true rfl)⟩) ⟨q_blind, q_recv hw (xN_0 xF_0) (xE_0 xF_0) rfl, q_pre hw⟩ rfl rfl hl.1 rfl (lv_room (Nat.le_of_ble_eq_true rfl)) dX8_parted_19 ⟨Nat.zero_le _, Nat.zero_le _⟩) (fun H locs hw => ?_)
    exact q_iret h C0 hr hlk hw dX8_parted_22
  · replace h := q_f h c2
    refine lv_iload_n hx hb dX8_parted_7 rfl (lv_at hl 2 rfl) ?_
    refine lv_if_lt (tgt := 16) hx hb dX8_parted_8 (by decide) (fun c4 => ?_) (fun c4 => ?_)
    · replace h := q_t h c4
      refine lv_aload_n hx hb dX8_parted_16 rfl (lv_at hl 0 rfl) ?_
      refine lv_bipush (v := (-2 : Int32)) hx hb dX8_parted_17 (by decide) ?_
      obtain ⟨o5, hco5, h⟩ := q_bind h
      refine q_calli hw (va_runV (As := [.int (-2 : Int32)]) (rest := []) C0 (kX8_refuse hco5 _) (cwV 1 hts gX8_parted_X8_refuse rfl rfl rfl eX8_refuse ⟨(Nat.le_of_ble_eq_true rfl), (Nat.le_of_ble_eq_true rfl)⟩) ⟨q_blind, q_recv hw (xN_0 xF_0) (xE_0 xF_0) rfl, q_pre hw⟩ rfl rfl hl.1 rfl (lv_room (Nat.le_of_ble_eq_true rfl)) dX8_parted_19 ⟨Nat.zero_le _, Nat.zero_le _⟩) (fun H locs hw => ?_)
      exact q_iret h C0 hr hlk hw dX8_parted_22
    · replace h := q_f h c4
      refine lv_iload_n hx hb dX8_parted_11 rfl (lv_at hl 2 rfl) ?_
      refine lv_iconst (v := (1 : Int32)) hx hb dX8_parted_12 (by decide) ?_
      refine lv_icmp_le (tgt := 23) hx hb dX8_parted_13 (by decide) (fun c6 => ?_) (fun c6 => ?_)
      · replace h := q_t h c6
        refine lv_aload_n hx hb dX8_parted_23 rfl (lv_at hl 0 rfl) ?_
        obtain ⟨o7, hco7, h⟩ := q_bind h
        refine q_callr hw (va_runV (As := []) (rest := []) C0 (kX8_lookAtFigure hco7 _) (cwV 0 hts gX8_parted_X8_lookAtFigure rfl rfl rfl eX8_lookAtFigure ⟨(Nat.le_of_ble_eq_true rfl), (Nat.le_of_ble_eq_true rfl)⟩) ⟨q_blind, q_recv hw (xN_0 xF_0) (xE_0 xF_0) rfl, q_pre hw⟩ rfl rfl hl.1 rfl (lv_room (Nat.le_of_ble_eq_true rfl)) dX8_parted_24 ⟨Nat.zero_le _, Nat.zero_le _⟩) (fun H locs hw => ?_)
        refine lv_iload_n hx hb dX8_parted_27 rfl (lv_at hl 1 rfl) ?_
        obtain ⟨o8, hco8, h⟩ := q_bind h
        refine q_calli hw (va_runV (As := [.int p1]) (rest := []) C0 (kX1_suffices hco8 _) (cwV 1 hts gX8_parted_X1_suffices rfl rfl rfl eX1_suffices ⟨(Nat.le_of_ble_eq_true rfl), (Nat.le_of_ble_eq_true rfl)⟩) ⟨q_blind, q_recv hw (xN_11 xF_25) (xE_11 xF_25) rfl, q_pre hw⟩ rfl rfl hl.1 rfl (lv_room (Nat.le_of_ble_eq_true rfl)) dX8_parted_28 ⟨Nat.zero_le _, Nat.zero_le _⟩) (fun H locs hw => ?_)
        refine lv_if_ne (tgt := 41) hx hb dX8_parted_31 (by decide) (fun c9 => ?_) (fun c9 => ?_)
        · replace h := q_f h c9
          refine lv_aload_n hx hb dX8_parted_41 rfl (lv_at hl 0 rfl) ?_
          refine gt_X8_6 C0 hw xF_0 iX8_parted_X8 (by decide +kernel) dX8_parted_42 ?_
          refine lv_iload_n hx hb dX8_parted_45 rfl (lv_at hl 1 rfl) ?_
          obtain ⟨o10, hco10, h⟩ := q_bind h
          refine q_callv hw (va_runV (As := [.int p1]) (rest := []) C0 (kX1_share hco10 _) (cwV 1 hts gX8_parted_X1_share rfl rfl rfl eX1_share ⟨(Nat.le_of_ble_eq_true rfl), (Nat.le_of_ble_eq_true rfl)⟩) ⟨q_blind, q_recv hw (xN_11 xF_25) (xE_11 xF_25) rfl, q_pre hw⟩ rfl rfl hl.1 rfl (lv_room (Nat.le_of_ble_eq_true rfl)) dX8_parted_46 ⟨Nat.zero_le _, Nat.zero_le _⟩) (fun H locs hw => ?_)
          refine lv_iload_n hx hb dX8_parted_49 rfl (lv_at hl 2 rfl) ?_
          refine lv_if_ne (tgt := 70) hx hb dX8_parted_50 (by decide) (fun c11 => ?_) (fun c11 => ?_)
          · replace h := q_f h c11
            refine lv_aload_n hx hb dX8_parted_70 rfl (lv_at hl 0 rfl) ?_
            refine gt_X8_6 C0 hw xF_0 iX8_parted_X8 (by decide +kernel) dX8_parted_71 ?_
            refine lv_aload_n hx hb dX8_parted_74 rfl (lv_at hl 0 rfl) ?_
            refine gt_X8_0 C0 hw xF_0 iX8_parted_X8 (by decide +kernel) dX8_parted_75 ?_
            obtain ⟨o12, hco12, h⟩ := q_bind h
            refine q_calli hw (va_runV (As := [.ref (ad 1)]) (rest := []) C0 (kX1_seam xF_1 hco12 _) (cwV 1 hts gX8_parted_X1_seam rfl rfl rfl eX1_seam ⟨(Nat.le_of_ble_eq_true rfl), (Nat.le_of_ble_eq_true rfl)⟩) ⟨q_blind, q_recv hw (xN_11 xF_25) (xE_11 xF_25) rfl, q_pre hw⟩ rfl rfl hl.1 rfl (lv_room (Nat.le_of_ble_eq_true rfl)) dX8_parted_78 ⟨Nat.zero_le _, Nat.zero_le _⟩) (fun H locs hw => ?_)
            exact q_iret h C0 hr hlk hw dX8_parted_81
          · replace h := q_t h c11
            refine lv_aload_n hx hb dX8_parted_53 rfl (lv_at hl 0 rfl) ?_
            refine gt_X8_6 C0 hw xF_0 iX8_parted_X8 (by decide +kernel) dX8_parted_54 ?_
            refine lv_aload_n hx hb dX8_parted_57 rfl (lv_at hl 0 rfl) ?_
            refine gt_X8_0 C0 hw xF_0 iX8_parted_X8 (by decide +kernel) dX8_parted_58 ?_
            refine gt_X2_0 C0 hw xF_1 iX8_parted_X2 (by decide +kernel) dX8_parted_61 ?_
            obtain ⟨o13, hco13, h⟩ := q_bind h
            refine q_calli hw (va_runV (As := [.ref (ad 2)]) (rest := []) C0 (kX1_countOwnedParts xF_2 hco13 _) (cwV 1 hts gX8_parted_X1_countOwnedParts rfl rfl rfl eX1_countOwnedParts ⟨(Nat.le_of_ble_eq_true rfl), (Nat.le_of_ble_eq_true rfl)⟩) ⟨q_blind, q_recv hw (xN_11 xF_25) (xE_11 xF_25) rfl, q_pre hw⟩ rfl rfl hl.1 rfl (lv_room (Nat.le_of_ble_eq_true rfl)) dX8_parted_64 ⟨Nat.zero_le _, Nat.zero_le _⟩) (fun H locs hw => ?_)
            refine lv_goto (tgt := 81) hx hb dX8_parted_67 (by decide) ?_
            exact q_iret h C0 hr hlk hw dX8_parted_81
        · replace h := q_t h c9
          refine lv_aload_n hx hb dX8_parted_34 rfl (lv_at hl 0 rfl) ?_
          refine lv_bipush (v := (-5 : Int32)) hx hb dX8_parted_35 (by decide) ?_
          obtain ⟨o14, hco14, h⟩ := q_bind h
          refine q_calli hw (va_runV (As := [.int (-5 : Int32)]) (rest := []) C0 (kX8_refuse hco14 _) (cwV 1 hts gX8_parted_X8_refuse rfl rfl rfl eX8_refuse ⟨(Nat.le_of_ble_eq_true rfl), (Nat.le_of_ble_eq_true rfl)⟩) ⟨q_blind, q_recv hw (xN_0 xF_0) (xE_0 xF_0) rfl, q_pre hw⟩ rfl rfl hl.1 rfl (lv_room (Nat.le_of_ble_eq_true rfl)) dX8_parted_37 ⟨Nat.zero_le _, Nat.zero_le _⟩) (fun H locs hw => ?_)
          exact q_iret h C0 hr hlk hw dX8_parted_40
      · replace h := q_f h c6
        refine lv_aload_n hx hb dX8_parted_16 rfl (lv_at hl 0 rfl) ?_
        refine lv_bipush (v := (-2 : Int32)) hx hb dX8_parted_17 (by decide) ?_
        obtain ⟨o15, hco15, h⟩ := q_bind h
        refine q_calli hw (va_runV (As := [.int (-2 : Int32)]) (rest := []) C0 (kX8_refuse hco15 _) (cwV 1 hts gX8_parted_X8_refuse rfl rfl rfl eX8_refuse ⟨(Nat.le_of_ble_eq_true rfl), (Nat.le_of_ble_eq_true rfl)⟩) ⟨q_blind, q_recv hw (xN_0 xF_0) (xE_0 xF_0) rfl, q_pre hw⟩ rfl rfl hl.1 rfl (lv_room (Nat.le_of_ble_eq_true rfl)) dX8_parted_19 ⟨Nat.zero_le _, Nat.zero_le _⟩) (fun H locs hw => ?_)
        exact q_iret h C0 hr hlk hw dX8_parted_22
-- X8_hidden hidden()I
theorem iX8_hidden_X8 : ∀ w ∈ wsX80, w ∈ wsX8_hidden := by decide +kernel
theorem eX1_leastSeamWays : yX1_leastSeamWays.cls = RX1 ∧ yX1_leastSeamWays.cls ≠ "java/lang/invoke/MethodHandle" ∧ yX1_leastSeamWays.cls ≠ "java/lang/invoke/VarHandle" ∧ (parseMethodDescriptor yX1_leastSeamWays.desc).map (fun d => d.parameters.length) = some 1 := by decide +kernel
set_option maxHeartbeats 4000000 in
set_option maxRecDepth 100000 in
theorem kX8_hidden   {σ : q_M} {out : Int32 × q_M} (h : fX8_hidden  σ = some out) : q_Mi l (gX D cI cJ cS ad adK adV) yX8_hidden wsX8_hidden { frames := 4, cells := 0, slots := 0, locals := 98 } [.ref (ad 0)] σ out := by
  refine q_Mi_of (cc := cX8_hidden) (maxL := 2) (ret := (some .int)) (by decide) rfl (Nat.le_of_ble_eq_true rfl) ?_
  intro p e s m below meth c ls C0 hr hlk hl hw
  obtain ⟨hx, hb, hml, hown, hts⟩ := id C0
  replace hl : lv_has ls 2 [(0, .ref (ad 0))] := hl
  unfold fX8_hidden at h
  refine lv_aload_n hx hb dX8_hidden_0 rfl (lv_at hl 0 rfl) ?_
  obtain ⟨o1, hco1, h⟩ := q_bind h
  refine q_callr hw (va_runV (As := []) (rest := []) C0 (kX8_lookAtFigure hco1 _) (cwV 0 hts gX8_hidden_X8_lookAtFigure rfl rfl rfl eX8_lookAtFigure ⟨(Nat.le_of_ble_eq_true rfl), (Nat.le_of_ble_eq_true rfl)⟩) ⟨q_blind, q_recv hw (xN_0 xF_0) (xE_0 xF_0) rfl, q_pre hw⟩ rfl rfl hl.1 rfl (lv_room (Nat.le_of_ble_eq_true rfl)) dX8_hidden_1 ⟨Nat.zero_le _, Nat.zero_le _⟩) (fun H locs hw => ?_)
  refine lv_aload_n hx hb dX8_hidden_4 rfl (lv_at hl 0 rfl) ?_
  refine gt_X8_0 C0 hw xF_0 iX8_hidden_X8 (by decide +kernel) dX8_hidden_5 ?_
  obtain ⟨o2, hco2, h⟩ := q_bind h
  refine q_calli hw (va_runV (As := [.ref (ad 1)]) (rest := []) C0 (kX1_leastSeamWays xF_1 hco2 _) (cwV 1 hts gX8_hidden_X1_leastSeamWays rfl rfl rfl eX1_leastSeamWays ⟨(Nat.le_of_ble_eq_true rfl), (Nat.le_of_ble_eq_true rfl)⟩) ⟨q_blind, q_recv hw (xN_11 xF_25) (xE_11 xF_25) rfl, q_pre hw⟩ rfl rfl hl.1 rfl (lv_room (Nat.le_of_ble_eq_true rfl)) dX8_hidden_8 ⟨Nat.zero_le _, Nat.zero_le _⟩) (fun H locs hw => ?_)
  refine lv_istore_n (lv' := [(1, .int o2.1), (0, .ref (ad 0))]) hx hb dX8_hidden_11 rfl hl (by decide) rfl (fun ls hl => ?_)
  refine lv_iload_n hx hb dX8_hidden_12 rfl (lv_at hl 0 rfl) ?_
  refine lv_iconst (v := (-1 : Int32)) hx hb dX8_hidden_13 (by decide) ?_
  refine lv_icmp_ne (tgt := 26) hx hb dX8_hidden_14 (by decide) (fun c3 => ?_) (fun c3 => ?_)
  · replace h := q_f h c3
    refine lv_iload_n hx hb dX8_hidden_26 rfl (lv_at hl 0 rfl) ?_
    exact q_iret h C0 hr hlk hw dX8_hidden_27
  · replace h := q_t h c3
    refine lv_aload_n hx hb dX8_hidden_17 rfl (lv_at hl 1 rfl) ?_
    refine lv_bipush (v := (-5 : Int32)) hx hb dX8_hidden_18 (by decide) ?_
    obtain ⟨o4, hco4, h⟩ := q_bind h
    refine q_calli hw (va_runV (As := [.int (-5 : Int32)]) (rest := []) C0 (kX8_refuse hco4 _) (cwV 1 hts gX8_hidden_X8_refuse rfl rfl rfl eX8_refuse ⟨(Nat.le_of_ble_eq_true rfl), (Nat.le_of_ble_eq_true rfl)⟩) ⟨q_blind, q_recv hw (xN_0 xF_0) (xE_0 xF_0) rfl, q_pre hw⟩ rfl rfl hl.1 rfl (lv_room (Nat.le_of_ble_eq_true rfl)) dX8_hidden_20 ⟨Nat.zero_le _, Nat.zero_le _⟩) (fun H locs hw => ?_)
    refine lv_goto (tgt := 27) hx hb dX8_hidden_23 (by decide) ?_
    exact q_iret h C0 hr hlk hw dX8_hidden_27
-- X8_make make(I)I
theorem iX8_make_X2 : ∀ w ∈ wsX20, w ∈ wsX8_make := by decide +kernel
theorem iX8_make_X8 : ∀ w ∈ wsX80, w ∈ wsX8_make := by decide +kernel
theorem eX1_layPieces : yX1_layPieces.cls = RX1 ∧ yX1_layPieces.cls ≠ "java/lang/invoke/MethodHandle" ∧ yX1_layPieces.cls ≠ "java/lang/invoke/VarHandle" ∧ (parseMethodDescriptor yX1_layPieces.desc).map (fun d => d.parameters.length) = some 1 := by decide +kernel
set_option maxHeartbeats 4000000 in
set_option maxRecDepth 100000 in
theorem kX8_make {p1 : Int32}  {σ : q_M} {out : Int32 × q_M} (h : fX8_make p1 σ = some out) : q_Mi l (gX D cI cJ cS ad adK adV) yX8_make wsX8_make { frames := 5, cells := 0, slots := 0, locals := 132 } [.ref (ad 0), .int p1] σ out := by
  refine q_Mi_of (cc := cX8_make) (maxL := 2) (ret := (some .int)) (by decide) rfl (Nat.le_of_ble_eq_true rfl) ?_
  intro p e s m below meth c ls C0 hr hlk hl hw
  obtain ⟨hx, hb, hml, hown, hts⟩ := id C0
  replace hl : lv_has ls 2 [(0, .ref (ad 0)), (1, .int p1)] := hl
  unfold fX8_make at h
  refine lv_iload_n hx hb dX8_make_0 rfl (lv_at hl 1 rfl) ?_
  obtain ⟨o1, hco1, h⟩ := q_bind h
  refine q_calli hw (va_runS (As := [.int p1]) (rest := []) C0 (kX8_isWaySet hco1 _) (va_cwS 1 hts gX8_make_X8_isWaySet rfl rfl rfl eX8_isWaySet ⟨(Nat.le_of_ble_eq_true rfl), (Nat.le_of_ble_eq_true rfl)⟩) ⟨q_blind, q_pre hw⟩ rfl rfl hl.1 rfl (lv_room (Nat.le_of_ble_eq_true rfl)) dX8_make_1 ⟨Nat.zero_le _, Nat.zero_le _⟩) (fun H locs hw => ?_)
  refine lv_if_ne (tgt := 14) hx hb dX8_make_4 (by decide) (fun c2 => ?_) (fun c2 => ?_)
  · replace h := q_f h c2
    refine lv_aload_n hx hb dX8_make_14 rfl (lv_at hl 0 rfl) ?_
    obtain ⟨o3, hco3, h⟩ := q_bind h
    refine q_callr hw (va_runV (As := []) (rest := []) C0 (kX8_lookAtFigure hco3 _) (cwV 0 hts gX8_make_X8_lookAtFigure rfl rfl rfl eX8_lookAtFigure ⟨(Nat.le_of_ble_eq_true rfl), (Nat.le_of_ble_eq_true rfl)⟩) ⟨q_blind, q_recv hw (xN_0 xF_0) (xE_0 xF_0) rfl, q_pre hw⟩ rfl rfl hl.1 rfl (lv_room (Nat.le_of_ble_eq_true rfl)) dX8_make_15 ⟨Nat.zero_le _, Nat.zero_le _⟩) (fun H locs hw => ?_)
    refine lv_iload_n hx hb dX8_make_18 rfl (lv_at hl 1 rfl) ?_
    obtain ⟨o4, hco4, h⟩ := q_bind h
    refine q_calli hw (va_runV (As := [.int p1]) (rest := []) C0 (kX1_suffices hco4 _) (cwV 1 hts gX8_make_X1_suffices rfl rfl rfl eX1_suffices ⟨(Nat.le_of_ble_eq_true rfl), (Nat.le_of_ble_eq_true rfl)⟩) ⟨q_blind, q_recv hw (xN_11 xF_25) (xE_11 xF_25) rfl, q_pre hw⟩ rfl rfl hl.1 rfl (lv_room (Nat.le_of_ble_eq_true rfl)) dX8_make_19 ⟨Nat.zero_le _, Nat.zero_le _⟩) (fun H locs hw => ?_)
    refine lv_if_ne (tgt := 32) hx hb dX8_make_22 (by decide) (fun c5 => ?_) (fun c5 => ?_)
    · replace h := q_f h c5
      refine lv_aload_n hx hb dX8_make_32 rfl (lv_at hl 0 rfl) ?_
      refine gt_X8_6 C0 hw xF_0 iX8_make_X8 (by decide +kernel) dX8_make_33 ?_
      refine lv_iload_n hx hb dX8_make_36 rfl (lv_at hl 1 rfl) ?_
      obtain ⟨o6, hco6, h⟩ := q_bind h
      refine q_callv hw (va_runV (As := [.int p1]) (rest := []) C0 (kX1_share hco6 _) (cwV 1 hts gX8_make_X1_share rfl rfl rfl eX1_share ⟨(Nat.le_of_ble_eq_true rfl), (Nat.le_of_ble_eq_true rfl)⟩) ⟨q_blind, q_recv hw (xN_11 xF_25) (xE_11 xF_25) rfl, q_pre hw⟩ rfl rfl hl.1 rfl (lv_room (Nat.le_of_ble_eq_true rfl)) dX8_make_37 ⟨Nat.zero_le _, Nat.zero_le _⟩) (fun H locs hw => ?_)
      refine lv_aload_n hx hb dX8_make_40 rfl (lv_at hl 0 rfl) ?_
      refine gt_X8_6 C0 hw xF_0 iX8_make_X8 (by decide +kernel) dX8_make_41 ?_
      refine lv_aload_n hx hb dX8_make_44 rfl (lv_at hl 0 rfl) ?_
      refine gt_X8_0 C0 hw xF_0 iX8_make_X8 (by decide +kernel) dX8_make_45 ?_
      refine gt_X2_0 C0 hw xF_1 iX8_make_X2 (by decide +kernel) dX8_make_48 ?_
      obtain ⟨o7, hco7, h⟩ := q_bind h
      refine q_calli hw (va_runV (As := [.ref (ad 2)]) (rest := []) C0 (kX1_countOwnedParts xF_2 hco7 _) (cwV 1 hts gX8_make_X1_countOwnedParts rfl rfl rfl eX1_countOwnedParts ⟨(Nat.le_of_ble_eq_true rfl), (Nat.le_of_ble_eq_true rfl)⟩) ⟨q_blind, q_recv hw (xN_11 xF_25) (xE_11 xF_25) rfl, q_pre hw⟩ rfl rfl hl.1 rfl (lv_room (Nat.le_of_ble_eq_true rfl)) dX8_make_51 ⟨Nat.zero_le _, Nat.zero_le _⟩) (fun H locs hw => ?_)
      refine lv_bipush (v := (8 : Int32)) hx hb dX8_make_54 (by decide) ?_
      refine lv_icmp_le (tgt := 66) hx hb dX8_make_56 (by decide) (fun c8 => ?_) (fun c8 => ?_)
      · replace h := q_t h c8
        refine lv_aload_n hx hb dX8_make_66 rfl (lv_at hl 0 rfl) ?_
        refine gt_X8_6 C0 hw xF_0 iX8_make_X8 (by decide +kernel) dX8_make_67 ?_
        refine lv_aload_n hx hb dX8_make_70 rfl (lv_at hl 0 rfl) ?_
        refine gt_X8_0 C0 hw xF_0 iX8_make_X8 (by decide +kernel) dX8_make_71 ?_
        obtain ⟨o9, hco9, h⟩ := q_bind h
        refine q_callv hw (va_runV (As := [.ref (ad 1)]) (rest := []) C0 (kX1_layPieces xF_1 hco9 _) (cwV 1 hts gX8_make_X1_layPieces rfl rfl rfl eX1_layPieces ⟨(Nat.le_of_ble_eq_true rfl), (Nat.le_of_ble_eq_true rfl)⟩) ⟨q_blind, q_recv hw (xN_11 xF_25) (xE_11 xF_25) rfl, q_pre hw⟩ rfl rfl hl.1 rfl (lv_room (Nat.le_of_ble_eq_true rfl)) dX8_make_74 ⟨Nat.zero_le _, Nat.zero_le _⟩) (fun H locs hw => ?_)
        refine lv_aload_n hx hb dX8_make_77 rfl (lv_at hl 0 rfl) ?_
        refine gt_X8_0 C0 hw xF_0 iX8_make_X8 (by decide +kernel) dX8_make_78 ?_
        refine gt_X2_2 C0 hw xF_1 iX8_make_X2 (by decide +kernel) dX8_make_81 ?_
        exact q_iret h C0 hr hlk hw dX8_make_84
      · replace h := q_f h c8
        refine lv_aload_n hx hb dX8_make_59 rfl (lv_at hl 0 rfl) ?_
        refine lv_bipush (v := (-6 : Int32)) hx hb dX8_make_60 (by decide) ?_
        obtain ⟨o10, hco10, h⟩ := q_bind h
        refine q_calli hw (va_runV (As := [.int (-6 : Int32)]) (rest := []) C0 (kX8_refuse hco10 _) (cwV 1 hts gX8_make_X8_refuse rfl rfl rfl eX8_refuse ⟨(Nat.le_of_ble_eq_true rfl), (Nat.le_of_ble_eq_true rfl)⟩) ⟨q_blind, q_recv hw (xN_0 xF_0) (xE_0 xF_0) rfl, q_pre hw⟩ rfl rfl hl.1 rfl (lv_room (Nat.le_of_ble_eq_true rfl)) dX8_make_62 ⟨Nat.zero_le _, Nat.zero_le _⟩) (fun H locs hw => ?_)
        exact q_iret h C0 hr hlk hw dX8_make_65
    · replace h := q_t h c5
      refine lv_aload_n hx hb dX8_make_25 rfl (lv_at hl 0 rfl) ?_
      refine lv_bipush (v := (-5 : Int32)) hx hb dX8_make_26 (by decide) ?_
      obtain ⟨o11, hco11, h⟩ := q_bind h
      refine q_calli hw (va_runV (As := [.int (-5 : Int32)]) (rest := []) C0 (kX8_refuse hco11 _) (cwV 1 hts gX8_make_X8_refuse rfl rfl rfl eX8_refuse ⟨(Nat.le_of_ble_eq_true rfl), (Nat.le_of_ble_eq_true rfl)⟩) ⟨q_blind, q_recv hw (xN_0 xF_0) (xE_0 xF_0) rfl, q_pre hw⟩ rfl rfl hl.1 rfl (lv_room (Nat.le_of_ble_eq_true rfl)) dX8_make_28 ⟨Nat.zero_le _, Nat.zero_le _⟩) (fun H locs hw => ?_)
      exact q_iret h C0 hr hlk hw dX8_make_31
  · replace h := q_t h c2
    refine lv_aload_n hx hb dX8_make_7 rfl (lv_at hl 0 rfl) ?_
    refine lv_bipush (v := (-2 : Int32)) hx hb dX8_make_8 (by decide) ?_
    obtain ⟨o12, hco12, h⟩ := q_bind h
    refine q_calli hw (va_runV (As := [.int (-2 : Int32)]) (rest := []) C0 (kX8_refuse hco12 _) (cwV 1 hts gX8_make_X8_refuse rfl rfl rfl eX8_refuse ⟨(Nat.le_of_ble_eq_true rfl), (Nat.le_of_ble_eq_true rfl)⟩) ⟨q_blind, q_recv hw (xN_0 xF_0) (xE_0 xF_0) rfl, q_pre hw⟩ rfl rfl hl.1 rfl (lv_room (Nat.le_of_ble_eq_true rfl)) dX8_make_10 ⟨Nat.zero_le _, Nat.zero_le _⟩) (fun H locs hw => ?_)
    exact q_iret h C0 hr hlk hw dX8_make_13
-- X8_isAxis isAxis(I)Z
set_option maxHeartbeats 4000000 in
set_option maxRecDepth 100000 in
theorem kX8_isAxis {p0 : Int32}  {σ : q_M} {out : Int32 × q_M} (h : fX8_isAxis p0 σ = some out) : q_Mi l (gX D cI cJ cS ad adK adV) yX8_isAxis wsX8_isAxis { frames := 0, cells := 0, slots := 0, locals := 0 } [.int p0] σ out := by
  refine q_Mi_of (cc := cX8_isAxis) (maxL := 1) (ret := (some .boolean)) (by decide) rfl (Nat.le_of_ble_eq_true rfl) ?_
  intro p e s m below meth c ls C0 hr hlk hl hw
  obtain ⟨hx, hb, hml, hown, hts⟩ := id C0
  replace hl : lv_has ls 1 [(0, .int p0)] := hl
  unfold fX8_isAxis at h
  refine lv_iload_n hx hb dX8_isAxis_0 rfl (lv_at hl 0 rfl) ?_
  refine lv_if_lt (tgt := 13) hx hb dX8_isAxis_1 (by decide) (fun c1 => ?_) (fun c1 => ?_)
  · replace h := q_t h c1
    refine lv_iconst (v := (0 : Int32)) hx hb dX8_isAxis_13 (by decide) ?_
    exact q_zret h C0 hr rfl hlk hw dX8_isAxis_14
  · replace h := q_f h c1
    refine lv_iload_n hx hb dX8_isAxis_4 rfl (lv_at hl 0 rfl) ?_
    refine lv_iconst (v := (3 : Int32)) hx hb dX8_isAxis_5 (by decide) ?_
    refine lv_icmp_ge (tgt := 13) hx hb dX8_isAxis_6 (by decide) (fun c2 => ?_) (fun c2 => ?_)
    · replace h := q_t h c2
      refine lv_iconst (v := (0 : Int32)) hx hb dX8_isAxis_13 (by decide) ?_
      exact q_zret h C0 hr rfl hlk hw dX8_isAxis_14
    · replace h := q_f h c2
      refine lv_iconst (v := (1 : Int32)) hx hb dX8_isAxis_9 (by decide) ?_
      refine lv_goto (tgt := 14) hx hb dX8_isAxis_10 (by decide) ?_
      exact q_zret h C0 hr rfl hlk hw dX8_isAxis_14
-- X8_halves halves(I)I
theorem iX8_halves_X0 : ∀ w ∈ wsX00, w ∈ wsX8_halves := by decide +kernel
theorem iX8_halves_X2 : ∀ w ∈ wsX20, w ∈ wsX8_halves := by decide +kernel
theorem iX8_halves_X8 : ∀ w ∈ wsX80, w ∈ wsX8_halves := by decide +kernel
theorem eX1_planeDoes : yX1_planeDoes.cls = RX1 ∧ yX1_planeDoes.cls ≠ "java/lang/invoke/MethodHandle" ∧ yX1_planeDoes.cls ≠ "java/lang/invoke/VarHandle" ∧ (parseMethodDescriptor yX1_planeDoes.desc).map (fun d => d.parameters.length) = some 2 := by decide +kernel
theorem eX8_isAxis : yX8_isAxis.cls ≠ "java/lang/invoke/MethodHandle" ∧ yX8_isAxis.cls ≠ "java/lang/invoke/VarHandle" ∧ (parseMethodDescriptor yX8_isAxis.desc).map (fun d => d.parameters.length) = some 1 := by decide +kernel
set_option maxHeartbeats 4000000 in
set_option maxRecDepth 100000 in
theorem tX8_halves_c23 {p1 : Int32}  (C0 : CallFix p m c cX8_halves 4 s args wsX8_halves RX8) (hr : meth.sig.returnType = (some .int)) (hlk : meth.locks = false) {out : Int32 × q_M}  : ∀ n : Nat, ∀ (v2 : Int32) (v3 : Int32) (σ : q_M) (H : Heap) (locs : List Loc) (ls : Array Slot), q_H (gX D cI cJ cS ad adK adV) (q_A (gX D cI cJ cS ad adK adV) s.heap.size) s σ H locs → lv_has ls 4 [(0, .ref (ad 0)), (1, .int p1), (2, .int v2), (3, .int v3)] → fX8_halves_c23 p1 n v2 v3 σ = some out → W p l e { frames := 4, cells := 0, slots := 0, locals := 98 } s m args below meth c H locs 0 0 (MQ below (q_Ri (gX D cI cJ cS ad adK adV) (q_A (gX D cI cJ cS ad adK adV) s.heap.size) out) args s 0 0 (q_A (gX D cI cJ cS ad adK adV) s.heap.size)) (F0 m 23 ls []) := by
  obtain ⟨hx, hb, hml, hown, hts⟩ := id C0
  intro n
  induction n with
  | zero =>
    intro v2 v3 σ H locs ls  hw hl h
    cases (show (none : Option (Int32 × q_M)) = some out from h)
  | succ n hrec23 =>
    intro v2 v3 σ H locs ls  hw hl h
    replace h : fX8_halves_c23b p1 (fX8_halves_c23 p1 n) v2 v3 σ = some out := h
    unfold fX8_halves_c23b at h
    refine lv_iload_n hx hb dX8_halves_23 rfl (lv_at hl 3 rfl) ?_
    refine lv_aload_n hx hb dX8_halves_24 rfl (lv_at hl 0 rfl) ?_
    refine gt_X8_0 C0 hw xF_0 iX8_halves_X8 (by decide +kernel) dX8_halves_25 ?_
    refine gt_X2_0 C0 hw xF_1 iX8_halves_X2 (by decide +kernel) dX8_halves_28 ?_
    refine gt_X0_0 C0 hw xF_2 iX8_halves_X0 (by decide +kernel) dX8_halves_31 ?_
    refine lv_icmp_gt (tgt := 72) hx hb dX8_halves_34 (by decide) (fun c1 => ?_) (fun c1 => ?_)
    · replace h := q_t h c1
      refine lv_iload_n hx hb dX8_halves_72 rfl (lv_at hl 2 rfl) ?_
      exact q_iret h C0 hr hlk hw dX8_halves_73
    · replace h := q_f h c1
      refine lv_aload_n hx hb dX8_halves_37 rfl (lv_at hl 0 rfl) ?_
      refine gt_X8_6 C0 hw xF_0 iX8_halves_X8 (by decide +kernel) dX8_halves_38 ?_
      refine lv_iload_n hx hb dX8_halves_41 rfl (lv_at hl 1 rfl) ?_
      refine lv_aload_n hx hb dX8_halves_42 rfl (lv_at hl 0 rfl) ?_
      refine gt_X8_0 C0 hw xF_0 iX8_halves_X8 (by decide +kernel) dX8_halves_43 ?_
      refine gt_X2_0 C0 hw xF_1 iX8_halves_X2 (by decide +kernel) dX8_halves_46 ?_
      refine lv_iload_n hx hb dX8_halves_49 rfl (lv_at hl 1 rfl) ?_
      refine lv_iload_n hx hb dX8_halves_50 rfl (lv_at hl 3 rfl) ?_
      obtain ⟨o2, hco2, h⟩ := q_bind h
      refine q_calll hw (va_runV (As := [.int p1, .int v3]) (rest := [.int p1, .ref (ad 25)]) C0 (kX0_below xF_2 hco2 _) (cwV 2 hts gX8_halves_X0_below rfl rfl rfl eX0_below ⟨(Nat.le_of_ble_eq_true rfl), (Nat.le_of_ble_eq_true rfl)⟩) ⟨q_blind, q_recv hw (xN_2 xF_2) (xE_2 xF_2) rfl, q_pre hw⟩ rfl rfl hl.1 rfl (lv_room (Nat.le_of_ble_eq_true rfl)) dX8_halves_51 ⟨Nat.zero_le _, Nat.zero_le _⟩) (fun H locs hw => ?_)
      obtain ⟨o3, hco3, h⟩ := q_bind h
      refine q_calli hw (va_runV (As := [.int p1, .long o2.1]) (rest := []) C0 (kX1_planeDoes hco3 _) (cwV 2 hts gX8_halves_X1_planeDoes rfl rfl rfl eX1_planeDoes ⟨(Nat.le_of_ble_eq_true rfl), (Nat.le_of_ble_eq_true rfl)⟩) ⟨q_blind, q_recv hw (xN_11 xF_25) (xE_11 xF_25) rfl, q_pre hw⟩ rfl rfl hl.1 rfl (lv_room (Nat.le_of_ble_eq_true rfl)) dX8_halves_54 ⟨Nat.zero_le _, Nat.zero_le _⟩) (fun H locs hw => ?_)
      refine lv_if_eq (tgt := 66) hx hb dX8_halves_57 (by decide) (fun c4 => ?_) (fun c4 => ?_)
      · replace h := q_t h c4
        refine lv_iinc (v := (v3 + (1 : Int32))) (lv' := [(3, .int (v3 + (1 : Int32))), (0, .ref (ad 0)), (1, .int p1), (2, .int v2)]) hx hb dX8_halves_66 hl (k := 3) rfl rfl (by decide) rfl (fun ls hl => ?_)
        refine lv_goto (tgt := 23) hx hb dX8_halves_69 (by decide) ?_
        exact hrec23 v2 (v3 + (1 : Int32)) o3.2 _ _ _ hw (lv_sub hl [1, 2, 3, 0] rfl) h
      · replace h := q_f h c4
        refine lv_iload_n hx hb dX8_halves_60 rfl (lv_at hl 2 rfl) ?_
        refine lv_iconst (v := (1 : Int32)) hx hb dX8_halves_61 (by decide) ?_
        refine lv_iload_n hx hb dX8_halves_62 rfl (lv_at hl 3 rfl) ?_
        refine q_ishl (v := (q_sl (1 : Int32) v3)) C0 dX8_halves_63 rfl ?_
        refine lv_ior hx hb dX8_halves_64 ?_
        refine lv_topi (fun x5 e_x5 => ?_)
        replace h := q_let_at e_x5 h
        refine lv_istore_n (lv' := [(2, .int x5), (0, .ref (ad 0)), (1, .int p1), (3, .int v3)]) hx hb dX8_halves_65 rfl hl (by decide) rfl (fun ls hl => ?_)
        refine lv_iinc (v := (v3 + (1 : Int32))) (lv' := [(3, .int (v3 + (1 : Int32))), (2, .int x5), (0, .ref (ad 0)), (1, .int p1)]) hx hb dX8_halves_66 hl (k := 3) rfl rfl (by decide) rfl (fun ls hl => ?_)
        refine lv_goto (tgt := 23) hx hb dX8_halves_69 (by decide) ?_
        exact hrec23 x5 (v3 + (1 : Int32)) o3.2 _ _ _ hw (lv_sub hl [2, 3, 1, 0] rfl) h
set_option maxHeartbeats 4000000 in
set_option maxRecDepth 100000 in
theorem kX8_halves {p1 : Int32}  {σ : q_M} {out : Int32 × q_M} (h : fX8_halves p1 σ = some out) : q_Mi l (gX D cI cJ cS ad adK adV) yX8_halves wsX8_halves { frames := 4, cells := 0, slots := 0, locals := 98 } [.ref (ad 0), .int p1] σ out := by
  refine q_Mi_of (cc := cX8_halves) (maxL := 4) (ret := (some .int)) (by decide) rfl (Nat.le_of_ble_eq_true rfl) ?_
  intro p e s m below meth c ls C0 hr hlk hl hw
  obtain ⟨hx, hb, hml, hown, hts⟩ := id C0
  replace hl : lv_has ls 4 [(0, .ref (ad 0)), (1, .int p1)] := hl
  unfold fX8_halves at h
  refine lv_iload_n hx hb dX8_halves_0 rfl (lv_at hl 1 rfl) ?_
  obtain ⟨o1, hco1, h⟩ := q_bind h
  refine q_calli hw (va_runS (As := [.int p1]) (rest := []) C0 (kX8_isAxis hco1 _) (va_cwS 1 hts gX8_halves_X8_isAxis rfl rfl rfl eX8_isAxis ⟨(Nat.le_of_ble_eq_true rfl), (Nat.le_of_ble_eq_true rfl)⟩) ⟨q_blind, q_pre hw⟩ rfl rfl hl.1 rfl (lv_room (Nat.le_of_ble_eq_true rfl)) dX8_halves_1 ⟨Nat.zero_le _, Nat.zero_le _⟩) (fun H locs hw => ?_)
  refine lv_if_ne (tgt := 14) hx hb dX8_halves_4 (by decide) (fun c2 => ?_) (fun c2 => ?_)
  · replace h := q_f h c2
    refine lv_aload_n hx hb dX8_halves_14 rfl (lv_at hl 0 rfl) ?_
    obtain ⟨o3, hco3, h⟩ := q_bind h
    refine q_callr hw (va_runV (As := []) (rest := []) C0 (kX8_lookAtFigure hco3 _) (cwV 0 hts gX8_halves_X8_lookAtFigure rfl rfl rfl eX8_lookAtFigure ⟨(Nat.le_of_ble_eq_true rfl), (Nat.le_of_ble_eq_true rfl)⟩) ⟨q_blind, q_recv hw (xN_0 xF_0) (xE_0 xF_0) rfl, q_pre hw⟩ rfl rfl hl.1 rfl (lv_room (Nat.le_of_ble_eq_true rfl)) dX8_halves_15 ⟨Nat.zero_le _, Nat.zero_le _⟩) (fun H locs hw => ?_)
    refine lv_pop hx hb dX8_halves_18 rfl ?_
    refine lv_iconst (v := (0 : Int32)) hx hb dX8_halves_19 (by decide) ?_
    refine lv_istore_n (lv' := [(2, .int (0 : Int32)), (0, .ref (ad 0)), (1, .int p1)]) hx hb dX8_halves_20 rfl hl (by decide) rfl (fun ls hl => ?_)
    refine lv_iconst (v := (0 : Int32)) hx hb dX8_halves_21 (by decide) ?_
    refine lv_istore_n (lv' := [(3, .int (0 : Int32)), (2, .int (0 : Int32)), (0, .ref (ad 0)), (1, .int p1)]) hx hb dX8_halves_22 rfl hl (by decide) rfl (fun ls hl => ?_)
    exact tX8_halves_c23 C0 hr hlk q_FU (0 : Int32) (0 : Int32) o3 _ _ _ hw (lv_sub hl [2, 3, 1, 0] rfl) h
  · replace h := q_t h c2
    refine lv_aload_n hx hb dX8_halves_7 rfl (lv_at hl 0 rfl) ?_
    refine lv_bipush (v := (-2 : Int32)) hx hb dX8_halves_8 (by decide) ?_
    obtain ⟨o4, hco4, h⟩ := q_bind h
    refine q_calli hw (va_runV (As := [.int (-2 : Int32)]) (rest := []) C0 (kX8_refuse hco4 _) (cwV 1 hts gX8_halves_X8_refuse rfl rfl rfl eX8_refuse ⟨(Nat.le_of_ble_eq_true rfl), (Nat.le_of_ble_eq_true rfl)⟩) ⟨q_blind, q_recv hw (xN_0 xF_0) (xE_0 xF_0) rfl, q_pre hw⟩ rfl rfl hl.1 rfl (lv_room (Nat.le_of_ble_eq_true rfl)) dX8_halves_10 ⟨Nat.zero_le _, Nat.zero_le _⟩) (fun H locs hw => ?_)
    exact q_iret h C0 hr hlk hw dX8_halves_13
-- X8_line line(I)I
theorem iX8_line_X2 : ∀ w ∈ wsX20, w ∈ wsX8_line := by decide +kernel
theorem iX8_line_X8 : ∀ w ∈ wsX80, w ∈ wsX8_line := by decide +kernel
set_option maxHeartbeats 4000000 in
set_option maxRecDepth 100000 in
theorem kX8_line {p1 : Int32}  {σ : q_M} {out : Int32 × q_M} (h : fX8_line p1 σ = some out) : q_Mi l (gX D cI cJ cS ad adK adV) yX8_line wsX8_line { frames := 2, cells := 0, slots := 0, locals := 54 } [.ref (ad 0), .int p1] σ out := by
  refine q_Mi_of (cc := cX8_line) (maxL := 5) (ret := (some .int)) (by decide) rfl (Nat.le_of_ble_eq_true rfl) ?_
  intro p e s m below meth c ls C0 hr hlk hl hw
  obtain ⟨hx, hb, hml, hown, hts⟩ := id C0
  replace hl : lv_has ls 5 [(0, .ref (ad 0)), (1, .int p1)] := hl
  unfold fX8_line at h
  refine lv_iload_n hx hb dX8_line_0 rfl (lv_at hl 1 rfl) ?_
  obtain ⟨o1, hco1, h⟩ := q_bind h
  refine q_calli hw (va_runS (As := [.int p1]) (rest := []) C0 (kX8_isAxis hco1 _) (va_cwS 1 hts gX8_line_X8_isAxis rfl rfl rfl eX8_isAxis ⟨(Nat.le_of_ble_eq_true rfl), (Nat.le_of_ble_eq_true rfl)⟩) ⟨q_blind, q_pre hw⟩ rfl rfl hl.1 rfl (lv_room (Nat.le_of_ble_eq_true rfl)) dX8_line_1 ⟨Nat.zero_le _, Nat.zero_le _⟩) (fun H locs hw => ?_)
  refine lv_if_ne (tgt := 14) hx hb dX8_line_4 (by decide) (fun c2 => ?_) (fun c2 => ?_)
  · replace h := q_f h c2
    refine lv_aload_n hx hb dX8_line_14 rfl (lv_at hl 0 rfl) ?_
    refine gt_X8_0 C0 hw xF_0 iX8_line_X8 (by decide +kernel) dX8_line_15 ?_
    refine gt_X2_0 C0 hw xF_1 iX8_line_X2 (by decide +kernel) dX8_line_18 ?_
    refine lv_astore_n (lv' := [(2, .ref (ad 2)), (0, .ref (ad 0)), (1, .int p1)]) hx hb dX8_line_21 rfl hl (by decide) rfl (fun ls hl => ?_)
    refine lv_aload_n hx hb dX8_line_22 rfl (lv_at hl 0 rfl) ?_
    refine lv_aload_n hx hb dX8_line_23 rfl (lv_at hl 1 rfl) ?_
    refine gt_X8_0 C0 hw xF_0 iX8_line_X8 (by decide +kernel) dX8_line_24 ?_
    refine gt_X2_1 C0 hw xF_1 iX8_line_X2 (by decide +kernel) dX8_line_27 ?_
    refine lv_iconst (v := (2 : Int32)) hx hb dX8_line_30 (by decide) ?_
    refine lv_iload_n hx hb dX8_line_31 rfl (lv_at hl 2 rfl) ?_
    refine lv_imul hx hb dX8_line_32 ?_
    obtain ⟨o3, hco3, h⟩ := q_bind h
    refine q_calll hw (va_runV (As := [.long (o1.2.2 1 1), .int ((2 : Int32) * p1)]) (rest := []) C0 (kX0_behind xF_2 hco3 _) (cwV 2 hts gX8_line_X0_behind rfl rfl rfl eX0_behind ⟨(Nat.le_of_ble_eq_true rfl), (Nat.le_of_ble_eq_true rfl)⟩) ⟨q_blind, q_recv hw (xN_2 xF_2) (xE_2 xF_2) rfl, q_pre hw⟩ rfl rfl hl.1 rfl (lv_room (Nat.le_of_ble_eq_true rfl)) dX8_line_33 ⟨Nat.zero_le _, Nat.zero_le _⟩) (fun H locs hw => ?_)
    refine lv_aload_n hx hb dX8_line_36 rfl (lv_at hl 0 rfl) ?_
    refine lv_aload_n hx hb dX8_line_37 rfl (lv_at hl 1 rfl) ?_
    refine gt_X8_0 C0 hw xF_0 iX8_line_X8 (by decide +kernel) dX8_line_38 ?_
    refine gt_X2_1 C0 hw xF_1 iX8_line_X2 (by decide +kernel) dX8_line_41 ?_
    refine lv_iconst (v := (2 : Int32)) hx hb dX8_line_44 (by decide) ?_
    refine lv_iload_n hx hb dX8_line_45 rfl (lv_at hl 2 rfl) ?_
    refine lv_imul hx hb dX8_line_46 ?_
    refine lv_iconst (v := (1 : Int32)) hx hb dX8_line_47 (by decide) ?_
    refine lv_iadd hx hb dX8_line_48 ?_
    obtain ⟨o4, hco4, h⟩ := q_bind h
    refine q_calll hw (va_runV (As := [.long (o3.2.2 1 1), .int (((2 : Int32) * p1) + (1 : Int32))]) (rest := [.long o3.1]) C0 (kX0_behind xF_2 hco4 _) (cwV 2 hts gX8_line_X0_behind rfl rfl rfl eX0_behind ⟨(Nat.le_of_ble_eq_true rfl), (Nat.le_of_ble_eq_true rfl)⟩) ⟨q_blind, q_recv hw (xN_2 xF_2) (xE_2 xF_2) rfl, q_pre hw⟩ rfl rfl hl.1 rfl (lv_room (Nat.le_of_ble_eq_true rfl)) dX8_line_49 ⟨Nat.zero_le _, Nat.zero_le _⟩) (fun H locs hw => ?_)
    refine lv_land hx hb dX8_line_52 ?_
    refine lv_aload_n hx hb dX8_line_53 rfl (lv_at hl 1 rfl) ?_
    refine gt_X8_0 C0 hw xF_0 iX8_line_X8 (by decide +kernel) dX8_line_54 ?_
    refine gt_X2_1 C0 hw xF_1 iX8_line_X2 (by decide +kernel) dX8_line_57 ?_
    refine lv_ldc2 (v := (-1 : Int64)) hx hb hown (hts (.constantLong RX8 168 (-1)) (by decide +kernel)) dX8_line_60 ?_
    refine lv_lxor hx hb dX8_line_63 ?_
    refine lv_land hx hb dX8_line_64 ?_
    refine lv_topl (fun x5 e_x5 => ?_)
    replace h := q_let_at e_x5 h
    refine lv_lstore_n (lv' := [(3, .long x5), (2, .ref (ad 2)), (0, .ref (ad 0)), (1, .int p1)]) hx hb dX8_line_65 rfl hl (by decide) rfl (fun ls hl => ?_)
    refine lv_lload_n hx hb dX8_line_66 rfl (lv_at hl 0 rfl) ?_
    refine lv_lconst (v := (0 : Int64)) hx hb dX8_line_67 (by decide) ?_
    refine q_lcmp_ne (tgt := 76) C0 dX8_line_68 dX8_line_69 (by decide) (fun c6 => ?_) (fun c6 => ?_)
    · replace h := q_f h c6
      refine lv_iconst (v := (0 : Int32)) hx hb dX8_line_76 (by decide) ?_
      exact q_iret h C0 hr hlk hw dX8_line_77
    · replace h := q_t h c6
      refine lv_iconst (v := (1 : Int32)) hx hb dX8_line_72 (by decide) ?_
      refine lv_goto (tgt := 77) hx hb dX8_line_73 (by decide) ?_
      exact q_iret h C0 hr hlk hw dX8_line_77
  · replace h := q_t h c2
    refine lv_aload_n hx hb dX8_line_7 rfl (lv_at hl 0 rfl) ?_
    refine lv_bipush (v := (-2 : Int32)) hx hb dX8_line_8 (by decide) ?_
    obtain ⟨o7, hco7, h⟩ := q_bind h
    refine q_calli hw (va_runV (As := [.int (-2 : Int32)]) (rest := []) C0 (kX8_refuse hco7 _) (cwV 1 hts gX8_line_X8_refuse rfl rfl rfl eX8_refuse ⟨(Nat.le_of_ble_eq_true rfl), (Nat.le_of_ble_eq_true rfl)⟩) ⟨q_blind, q_recv hw (xN_0 xF_0) (xE_0 xF_0) rfl, q_pre hw⟩ rfl rfl hl.1 rfl (lv_room (Nat.le_of_ble_eq_true rfl)) dX8_line_10 ⟨Nat.zero_le _, Nat.zero_le _⟩) (fun H locs hw => ?_)
    exact q_iret h C0 hr hlk hw dX8_line_13
-- X8_countForPart countForPart(J)I
theorem iX8_countForPart_X2 : ∀ w ∈ wsX20, w ∈ wsX8_countForPart := by decide +kernel
theorem iX8_countForPart_X8 : ∀ w ∈ wsX80, w ∈ wsX8_countForPart := by decide +kernel
set_option maxHeartbeats 4000000 in
set_option maxRecDepth 100000 in
theorem kX8_countForPart {p1 : Int64}  {σ : q_M} {out : Int32 × q_M} (h : fX8_countForPart p1 σ = some out) : q_Mi l (gX D cI cJ cS ad adK adV) yX8_countForPart wsX8_countForPart { frames := 3, cells := 0, slots := 0, locals := 78 } [.ref (ad 0), .long p1] σ out := by
  refine q_Mi_of (cc := cX8_countForPart) (maxL := 4) (ret := (some .int)) (by decide) rfl (Nat.le_of_ble_eq_true rfl) ?_
  intro p e s m below meth c ls C0 hr hlk hl hw
  obtain ⟨hx, hb, hml, hown, hts⟩ := id C0
  replace hl : lv_has ls 4 [(0, .ref (ad 0)), (1, .long p1)] := hl
  unfold fX8_countForPart at h
  refine lv_aload_n hx hb dX8_countForPart_0 rfl (lv_at hl 0 rfl) ?_
  refine gt_X8_6 C0 hw xF_0 iX8_countForPart_X8 (by decide +kernel) dX8_countForPart_1 ?_
  refine lv_aload_n hx hb dX8_countForPart_4 rfl (lv_at hl 0 rfl) ?_
  refine gt_X8_0 C0 hw xF_0 iX8_countForPart_X8 (by decide +kernel) dX8_countForPart_5 ?_
  refine gt_X2_0 C0 hw xF_1 iX8_countForPart_X2 (by decide +kernel) dX8_countForPart_8 ?_
  refine lv_lload_n hx hb dX8_countForPart_11 rfl (lv_at hl 1 rfl) ?_
  obtain ⟨o1, hco1, h⟩ := q_bind h
  refine q_callv hw (va_runV (As := [.ref (ad 2), .long p1]) (rest := []) C0 (kX1_look xF_2 hco1 _) (cwV 2 hts gX8_countForPart_X1_look rfl rfl rfl eX1_look ⟨(Nat.le_of_ble_eq_true rfl), (Nat.le_of_ble_eq_true rfl)⟩) ⟨q_blind, q_recv hw (xN_11 xF_25) (xE_11 xF_25) rfl, q_pre hw⟩ rfl rfl hl.1 rfl (lv_room (Nat.le_of_ble_eq_true rfl)) dX8_countForPart_12 ⟨Nat.zero_le _, Nat.zero_le _⟩) (fun H locs hw => ?_)
  refine lv_aload_n hx hb dX8_countForPart_15 rfl (lv_at hl 0 rfl) ?_
  refine gt_X8_6 C0 hw xF_0 iX8_countForPart_X8 (by decide +kernel) dX8_countForPart_16 ?_
  obtain ⟨o2, hco2, h⟩ := q_bind h
  refine q_calli hw (va_runV (As := []) (rest := []) C0 (kX1_fewestWays hco2 _) (cwV 0 hts gX8_countForPart_X1_fewestWays rfl rfl rfl eX1_fewestWays ⟨(Nat.le_of_ble_eq_true rfl), (Nat.le_of_ble_eq_true rfl)⟩) ⟨q_blind, q_recv hw (xN_11 xF_25) (xE_11 xF_25) rfl, q_pre hw⟩ rfl rfl hl.1 rfl (lv_room (Nat.le_of_ble_eq_true rfl)) dX8_countForPart_19 ⟨Nat.zero_le _, Nat.zero_le _⟩) (fun H locs hw => ?_)
  refine lv_istore_n (lv' := [(3, .int o2.1), (0, .ref (ad 0)), (1, .long p1)]) hx hb dX8_countForPart_22 rfl hl (by decide) rfl (fun ls hl => ?_)
  refine lv_iload_n hx hb dX8_countForPart_23 rfl (lv_at hl 0 rfl) ?_
  refine lv_iconst (v := (-1 : Int32)) hx hb dX8_countForPart_24 (by decide) ?_
  refine lv_icmp_ne (tgt := 33) hx hb dX8_countForPart_25 (by decide) (fun c3 => ?_) (fun c3 => ?_)
  · replace h := q_f h c3
    refine lv_iload_n hx hb dX8_countForPart_33 rfl (lv_at hl 0 rfl) ?_
    obtain ⟨o4, hco4, h⟩ := q_bind h
    refine q_calli hw (va_runS (As := [.int o2.1]) (rest := []) C0 (kJ6_bitCount_0f7a4 hco4 _) (va_cwS 1 hts gX8_countForPart_J6_bitCount_0f7a4 rfl rfl rfl eJ6_bitCount_0f7a4 ⟨(Nat.le_of_ble_eq_true rfl), (Nat.le_of_ble_eq_true rfl)⟩) ⟨q_blind, q_pre hw⟩ rfl rfl hl.1 rfl (lv_room (Nat.le_of_ble_eq_true rfl)) dX8_countForPart_34 ⟨Nat.zero_le _, Nat.zero_le _⟩) (fun H locs hw => ?_)
    exact q_iret h C0 hr hlk hw dX8_countForPart_37
  · replace h := q_t h c3
    refine lv_bipush (v := (9 : Int32)) hx hb dX8_countForPart_28 (by decide) ?_
    refine lv_goto (tgt := 37) hx hb dX8_countForPart_30 (by decide) ?_
    exact q_iret h C0 hr hlk hw dX8_countForPart_37
-- X8_countCut countCut(II)I
theorem iX8_countCut_X2 : ∀ w ∈ wsX20, w ∈ wsX8_countCut := by decide +kernel
theorem iX8_countCut_X8 : ∀ w ∈ wsX80, w ∈ wsX8_countCut := by decide +kernel
theorem eX8_countForPart : yX8_countForPart.cls = RX8 ∧ yX8_countForPart.cls ≠ "java/lang/invoke/MethodHandle" ∧ yX8_countForPart.cls ≠ "java/lang/invoke/VarHandle" ∧ (parseMethodDescriptor yX8_countForPart.desc).map (fun d => d.parameters.length) = some 1 := by decide +kernel
set_option maxHeartbeats 4000000 in
set_option maxRecDepth 100000 in
theorem kX8_countCut {p1 : Int32} {p2 : Int32}  {σ : q_M} {out : Int32 × q_M} (h : fX8_countCut p1 p2 σ = some out) : q_Mi l (gX D cI cJ cS ad adK adV) yX8_countCut wsX8_countCut { frames := 4, cells := 0, slots := 0, locals := 101 } [.ref (ad 0), .int p1, .int p2] σ out := by
  refine q_Mi_of (cc := cX8_countCut) (maxL := 5) (ret := (some .int)) (by decide) rfl (Nat.le_of_ble_eq_true rfl) ?_
  intro p e s m below meth c ls C0 hr hlk hl hw
  obtain ⟨hx, hb, hml, hown, hts⟩ := id C0
  replace hl : lv_has ls 5 [(0, .ref (ad 0)), (1, .int p1), (2, .int p2)] := hl
  unfold fX8_countCut at h
  refine lv_aload_n hx hb dX8_countCut_0 rfl (lv_at hl 0 rfl) ?_
  refine gt_X8_0 C0 hw xF_0 iX8_countCut_X8 (by decide +kernel) dX8_countCut_1 ?_
  refine gt_X2_0 C0 hw xF_1 iX8_countCut_X2 (by decide +kernel) dX8_countCut_4 ?_
  refine lv_iload_n hx hb dX8_countCut_7 rfl (lv_at hl 1 rfl) ?_
  refine lv_iload_n hx hb dX8_countCut_8 rfl (lv_at hl 2 rfl) ?_
  obtain ⟨o1, hco1, h⟩ := q_bind h
  refine q_calll hw (va_runV (As := [.int p1, .int p2]) (rest := []) C0 (kX0_below xF_2 hco1 _) (cwV 2 hts gX8_countCut_X0_below rfl rfl rfl eX0_below ⟨(Nat.le_of_ble_eq_true rfl), (Nat.le_of_ble_eq_true rfl)⟩) ⟨q_blind, q_recv hw (xN_2 xF_2) (xE_2 xF_2) rfl, q_pre hw⟩ rfl rfl hl.1 rfl (lv_room (Nat.le_of_ble_eq_true rfl)) dX8_countCut_9 ⟨Nat.zero_le _, Nat.zero_le _⟩) (fun H locs hw => ?_)
  refine lv_lstore_n (lv' := [(3, .long o1.1), (0, .ref (ad 0)), (1, .int p1), (2, .int p2)]) hx hb dX8_countCut_12 rfl hl (by decide) rfl (fun ls hl => ?_)
  refine lv_aload_n hx hb dX8_countCut_13 rfl (lv_at hl 1 rfl) ?_
  refine lv_aload_n hx hb dX8_countCut_14 rfl (lv_at hl 1 rfl) ?_
  refine gt_X8_0 C0 hw xF_0 iX8_countCut_X8 (by decide +kernel) dX8_countCut_15 ?_
  refine gt_X2_1 C0 hw xF_1 iX8_countCut_X2 (by decide +kernel) dX8_countCut_18 ?_
  refine lv_lload_n hx hb dX8_countCut_21 rfl (lv_at hl 0 rfl) ?_
  refine lv_land hx hb dX8_countCut_22 ?_
  obtain ⟨o2, hco2, h⟩ := q_bind h
  refine q_calli hw (va_runV (As := [.long ((o1.2.2 1 1) &&& o1.1)]) (rest := []) C0 (kX8_countForPart hco2 _) (cwV 1 hts gX8_countCut_X8_countForPart rfl rfl rfl eX8_countForPart ⟨(Nat.le_of_ble_eq_true rfl), (Nat.le_of_ble_eq_true rfl)⟩) ⟨q_blind, q_recv hw (xN_0 xF_0) (xE_0 xF_0) rfl, q_pre hw⟩ rfl rfl hl.1 rfl (lv_room (Nat.le_of_ble_eq_true rfl)) dX8_countCut_23 ⟨Nat.zero_le _, Nat.zero_le _⟩) (fun H locs hw => ?_)
  refine lv_aload_n hx hb dX8_countCut_26 rfl (lv_at hl 1 rfl) ?_
  refine lv_aload_n hx hb dX8_countCut_27 rfl (lv_at hl 1 rfl) ?_
  refine gt_X8_0 C0 hw xF_0 iX8_countCut_X8 (by decide +kernel) dX8_countCut_28 ?_
  refine gt_X2_1 C0 hw xF_1 iX8_countCut_X2 (by decide +kernel) dX8_countCut_31 ?_
  refine lv_lload_n hx hb dX8_countCut_34 rfl (lv_at hl 0 rfl) ?_
  refine lv_ldc2 (v := (-1 : Int64)) hx hb hown (hts (.constantLong RX8 168 (-1)) (by decide +kernel)) dX8_countCut_35 ?_
  refine lv_lxor hx hb dX8_countCut_38 ?_
  refine lv_land hx hb dX8_countCut_39 ?_
  obtain ⟨o3, hco3, h⟩ := q_bind h
  refine q_calli hw (va_runV (As := [.long ((o2.2.2 1 1) &&& (o1.1 ^^^ (-1 : Int64)))]) (rest := [.int o2.1]) C0 (kX8_countForPart hco3 _) (cwV 1 hts gX8_countCut_X8_countForPart rfl rfl rfl eX8_countForPart ⟨(Nat.le_of_ble_eq_true rfl), (Nat.le_of_ble_eq_true rfl)⟩) ⟨q_blind, q_recv hw (xN_0 xF_0) (xE_0 xF_0) rfl, q_pre hw⟩ rfl rfl hl.1 rfl (lv_room (Nat.le_of_ble_eq_true rfl)) dX8_countCut_40 ⟨Nat.zero_le _, Nat.zero_le _⟩) (fun H locs hw => ?_)
  refine lv_iadd hx hb dX8_countCut_43 ?_
  exact q_iret h C0 hr hlk hw dX8_countCut_44
-- X8_cut cut(II)I
theorem iX8_cut_X0 : ∀ w ∈ wsX00, w ∈ wsX8_cut := by decide +kernel
theorem iX8_cut_X2 : ∀ w ∈ wsX20, w ∈ wsX8_cut := by decide +kernel
theorem iX8_cut_X8 : ∀ w ∈ wsX80, w ∈ wsX8_cut := by decide +kernel
theorem eX8_countCut : yX8_countCut.cls = RX8 ∧ yX8_countCut.cls ≠ "java/lang/invoke/MethodHandle" ∧ yX8_countCut.cls ≠ "java/lang/invoke/VarHandle" ∧ (parseMethodDescriptor yX8_countCut.desc).map (fun d => d.parameters.length) = some 2 := by decide +kernel
set_option maxHeartbeats 4000000 in
set_option maxRecDepth 100000 in
theorem kX8_cut {p1 : Int32} {p2 : Int32}  {σ : q_M} {out : Int32 × q_M} (h : fX8_cut p1 p2 σ = some out) : q_Mi l (gX D cI cJ cS ad adK adV) yX8_cut wsX8_cut { frames := 5, cells := 0, slots := 0, locals := 125 } [.ref (ad 0), .int p1, .int p2] σ out := by
  refine q_Mi_of (cc := cX8_cut) (maxL := 3) (ret := (some .int)) (by decide) rfl (Nat.le_of_ble_eq_true rfl) ?_
  intro p e s m below meth c ls C0 hr hlk hl hw
  obtain ⟨hx, hb, hml, hown, hts⟩ := id C0
  replace hl : lv_has ls 3 [(0, .ref (ad 0)), (1, .int p1), (2, .int p2)] := hl
  unfold fX8_cut at h
  refine lv_iload_n hx hb dX8_cut_0 rfl (lv_at hl 1 rfl) ?_
  obtain ⟨o1, hco1, h⟩ := q_bind h
  refine q_calli hw (va_runS (As := [.int p1]) (rest := []) C0 (kX8_isAxis hco1 _) (va_cwS 1 hts gX8_cut_X8_isAxis rfl rfl rfl eX8_isAxis ⟨(Nat.le_of_ble_eq_true rfl), (Nat.le_of_ble_eq_true rfl)⟩) ⟨q_blind, q_pre hw⟩ rfl rfl hl.1 rfl (lv_room (Nat.le_of_ble_eq_true rfl)) dX8_cut_1 ⟨Nat.zero_le _, Nat.zero_le _⟩) (fun H locs hw => ?_)
  refine lv_if_eq (tgt := 26) hx hb dX8_cut_4 (by decide) (fun c2 => ?_) (fun c2 => ?_)
  · replace h := q_t h c2
    refine lv_aload_n hx hb dX8_cut_26 rfl (lv_at hl 0 rfl) ?_
    refine lv_bipush (v := (-2 : Int32)) hx hb dX8_cut_27 (by decide) ?_
    obtain ⟨o3, hco3, h⟩ := q_bind h
    refine q_calli hw (va_runV (As := [.int (-2 : Int32)]) (rest := []) C0 (kX8_refuse hco3 _) (cwV 1 hts gX8_cut_X8_refuse rfl rfl rfl eX8_refuse ⟨(Nat.le_of_ble_eq_true rfl), (Nat.le_of_ble_eq_true rfl)⟩) ⟨q_blind, q_recv hw (xN_0 xF_0) (xE_0 xF_0) rfl, q_pre hw⟩ rfl rfl hl.1 rfl (lv_room (Nat.le_of_ble_eq_true rfl)) dX8_cut_29 ⟨Nat.zero_le _, Nat.zero_le _⟩) (fun H locs hw => ?_)
    exact q_iret h C0 hr hlk hw dX8_cut_32
  · replace h := q_f h c2
    refine lv_iload_n hx hb dX8_cut_7 rfl (lv_at hl 2 rfl) ?_
    refine lv_iconst (v := (1 : Int32)) hx hb dX8_cut_8 (by decide) ?_
    refine lv_icmp_lt (tgt := 26) hx hb dX8_cut_9 (by decide) (fun c4 => ?_) (fun c4 => ?_)
    · replace h := q_t h c4
      refine lv_aload_n hx hb dX8_cut_26 rfl (lv_at hl 0 rfl) ?_
      refine lv_bipush (v := (-2 : Int32)) hx hb dX8_cut_27 (by decide) ?_
      obtain ⟨o5, hco5, h⟩ := q_bind h
      refine q_calli hw (va_runV (As := [.int (-2 : Int32)]) (rest := []) C0 (kX8_refuse hco5 _) (cwV 1 hts gX8_cut_X8_refuse rfl rfl rfl eX8_refuse ⟨(Nat.le_of_ble_eq_true rfl), (Nat.le_of_ble_eq_true rfl)⟩) ⟨q_blind, q_recv hw (xN_0 xF_0) (xE_0 xF_0) rfl, q_pre hw⟩ rfl rfl hl.1 rfl (lv_room (Nat.le_of_ble_eq_true rfl)) dX8_cut_29 ⟨Nat.zero_le _, Nat.zero_le _⟩) (fun H locs hw => ?_)
      exact q_iret h C0 hr hlk hw dX8_cut_32
    · replace h := q_f h c4
      refine lv_iload_n hx hb dX8_cut_12 rfl (lv_at hl 2 rfl) ?_
      refine lv_aload_n hx hb dX8_cut_13 rfl (lv_at hl 0 rfl) ?_
      refine gt_X8_0 C0 hw xF_0 iX8_cut_X8 (by decide +kernel) dX8_cut_14 ?_
      refine gt_X2_0 C0 hw xF_1 iX8_cut_X2 (by decide +kernel) dX8_cut_17 ?_
      refine gt_X0_0 C0 hw xF_2 iX8_cut_X0 (by decide +kernel) dX8_cut_20 ?_
      refine lv_icmp_lt (tgt := 33) hx hb dX8_cut_23 (by decide) (fun c6 => ?_) (fun c6 => ?_)
      · replace h := q_t h c6
        refine lv_aload_n hx hb dX8_cut_33 rfl (lv_at hl 0 rfl) ?_
        refine lv_iload_n hx hb dX8_cut_34 rfl (lv_at hl 1 rfl) ?_
        refine lv_iload_n hx hb dX8_cut_35 rfl (lv_at hl 2 rfl) ?_
        obtain ⟨o7, hco7, h⟩ := q_bind h
        refine q_calli hw (va_runV (As := [.int p1, .int p2]) (rest := []) C0 (kX8_countCut hco7 _) (cwV 2 hts gX8_cut_X8_countCut rfl rfl rfl eX8_countCut ⟨(Nat.le_of_ble_eq_true rfl), (Nat.le_of_ble_eq_true rfl)⟩) ⟨q_blind, q_recv hw (xN_0 xF_0) (xE_0 xF_0) rfl, q_pre hw⟩ rfl rfl hl.1 rfl (lv_room (Nat.le_of_ble_eq_true rfl)) dX8_cut_36 ⟨Nat.zero_le _, Nat.zero_le _⟩) (fun H locs hw => ?_)
        exact q_iret h C0 hr hlk hw dX8_cut_39
      · replace h := q_f h c6
        refine lv_aload_n hx hb dX8_cut_26 rfl (lv_at hl 0 rfl) ?_
        refine lv_bipush (v := (-2 : Int32)) hx hb dX8_cut_27 (by decide) ?_
        obtain ⟨o8, hco8, h⟩ := q_bind h
        refine q_calli hw (va_runV (As := [.int (-2 : Int32)]) (rest := []) C0 (kX8_refuse hco8 _) (cwV 1 hts gX8_cut_X8_refuse rfl rfl rfl eX8_refuse ⟨(Nat.le_of_ble_eq_true rfl), (Nat.le_of_ble_eq_true rfl)⟩) ⟨q_blind, q_recv hw (xN_0 xF_0) (xE_0 xF_0) rfl, q_pre hw⟩ rfl rfl hl.1 rfl (lv_room (Nat.le_of_ble_eq_true rfl)) dX8_cut_29 ⟨Nat.zero_le _, Nat.zero_le _⟩) (fun H locs hw => ?_)
        exact q_iret h C0 hr hlk hw dX8_cut_32
-- X8_best best()I
theorem iX8_best_X0 : ∀ w ∈ wsX00, w ∈ wsX8_best := by decide +kernel
theorem iX8_best_X2 : ∀ w ∈ wsX20, w ∈ wsX8_best := by decide +kernel
theorem iX8_best_X8 : ∀ w ∈ wsX80, w ∈ wsX8_best := by decide +kernel
set_option maxHeartbeats 4000000 in
set_option maxRecDepth 100000 in
theorem tX8_best_c14 {rec6 : Int32 → Int32 → Int32 → q_M → Option (Int32 × q_M)}  (C0 : CallFix p m c cX8_best 6 s args wsX8_best RX8) (hr : meth.sig.returnType = (some .int)) (hlk : meth.locks = false) {out : Int32 × q_M} (hrec6 : ∀ (v1 : Int32) (v2 : Int32) (v3 : Int32) (σ : q_M) (H : Heap) (locs : List Loc) (ls : Array Slot), q_H (gX D cI cJ cS ad adK adV) (q_A (gX D cI cJ cS ad adK adV) s.heap.size) s σ H locs → lv_has ls 6 [(0, .ref (ad 0)), (1, .int v1), (2, .int v2), (3, .int v3)] → rec6 v1 v2 v3 σ = some out → W p l e { frames := 5, cells := 0, slots := 0, locals := 125 } s m args below meth c H locs 0 0 (MQ below (q_Ri (gX D cI cJ cS ad adK adV) (q_A (gX D cI cJ cS ad adK adV) s.heap.size) out) args s 0 0 (q_A (gX D cI cJ cS ad adK adV) s.heap.size)) (F0 m 6 ls [])) : ∀ n : Nat, ∀ (v1 : Int32) (v2 : Int32) (v3 : Int32) (v4 : Int32) (σ : q_M) (H : Heap) (locs : List Loc) (ls : Array Slot), q_H (gX D cI cJ cS ad adK adV) (q_A (gX D cI cJ cS ad adK adV) s.heap.size) s σ H locs → lv_has ls 6 [(0, .ref (ad 0)), (1, .int v1), (2, .int v2), (3, .int v3), (4, .int v4)] → fX8_best_c14 rec6 n v1 v2 v3 v4 σ = some out → W p l e { frames := 5, cells := 0, slots := 0, locals := 125 } s m args below meth c H locs 0 0 (MQ below (q_Ri (gX D cI cJ cS ad adK adV) (q_A (gX D cI cJ cS ad adK adV) s.heap.size) out) args s 0 0 (q_A (gX D cI cJ cS ad adK adV) s.heap.size)) (F0 m 14 ls []) := by
  obtain ⟨hx, hb, hml, hown, hts⟩ := id C0
  intro n
  induction n with
  | zero =>
    intro v1 v2 v3 v4 σ H locs ls  hw hl h
    cases (show (none : Option (Int32 × q_M)) = some out from h)
  | succ n hrec14 =>
    intro v1 v2 v3 v4 σ H locs ls  hw hl h
    replace h : fX8_best_c14b rec6 (fX8_best_c14 rec6 n) v1 v2 v3 v4 σ = some out := h
    unfold fX8_best_c14b at h
    refine lv_iload hx hb dX8_best_14 (lv_at hl 4 rfl) ?_
    refine lv_aload_n hx hb dX8_best_16 rfl (lv_at hl 0 rfl) ?_
    refine gt_X8_0 C0 hw xF_0 iX8_best_X8 (by decide +kernel) dX8_best_17 ?_
    refine gt_X2_0 C0 hw xF_1 iX8_best_X2 (by decide +kernel) dX8_best_20 ?_
    refine gt_X0_0 C0 hw xF_2 iX8_best_X0 (by decide +kernel) dX8_best_23 ?_
    refine lv_icmp_ge (tgt := 66) hx hb dX8_best_26 (by decide) (fun c1 => ?_) (fun c1 => ?_)
    · replace h := q_t h c1
      refine lv_iinc (v := (v3 + (1 : Int32))) (lv' := [(3, .int (v3 + (1 : Int32))), (0, .ref (ad 0)), (1, .int v1), (2, .int v2), (4, .int v4)]) hx hb dX8_best_66 hl (k := 3) rfl rfl (by decide) rfl (fun ls hl => ?_)
      refine lv_goto (tgt := 6) hx hb dX8_best_69 (by decide) ?_
      exact hrec6 v1 v2 (v3 + (1 : Int32)) σ _ _ _ hw (lv_sub hl [1, 2, 3, 0] rfl) h
    · replace h := q_f h c1
      refine lv_aload_n hx hb dX8_best_29 rfl (lv_at hl 0 rfl) ?_
      refine lv_iload_n hx hb dX8_best_30 rfl (lv_at hl 3 rfl) ?_
      refine lv_iload hx hb dX8_best_31 (lv_at hl 4 rfl) ?_
      obtain ⟨o2, hco2, h⟩ := q_bind h
      refine q_calli hw (va_runV (As := [.int v3, .int v4]) (rest := []) C0 (kX8_countCut hco2 _) (cwV 2 hts gX8_best_X8_countCut rfl rfl rfl eX8_countCut ⟨(Nat.le_of_ble_eq_true rfl), (Nat.le_of_ble_eq_true rfl)⟩) ⟨q_blind, q_recv hw (xN_0 xF_0) (xE_0 xF_0) rfl, q_pre hw⟩ rfl rfl hl.1 rfl (lv_room (Nat.le_of_ble_eq_true rfl)) dX8_best_33 ⟨Nat.zero_le _, Nat.zero_le _⟩) (fun H locs hw => ?_)
      refine lv_istore (lv' := [(5, .int o2.1), (0, .ref (ad 0)), (1, .int v1), (2, .int v2), (3, .int v3), (4, .int v4)]) hx hb dX8_best_36 hl (by decide) rfl (fun ls hl => ?_)
      refine lv_iload_n hx hb dX8_best_38 rfl (lv_at hl 2 rfl) ?_
      refine lv_iconst (v := (-1 : Int32)) hx hb dX8_best_39 (by decide) ?_
      refine lv_icmp_eq (tgt := 49) hx hb dX8_best_40 (by decide) (fun c3 => ?_) (fun c3 => ?_)
      · replace h := q_t h c3
        refine lv_iload hx hb dX8_best_49 (lv_at hl 0 rfl) ?_
        refine lv_istore_n (lv' := [(2, .int o2.1), (5, .int o2.1), (0, .ref (ad 0)), (1, .int v1), (3, .int v3), (4, .int v4)]) hx hb dX8_best_51 rfl hl (by decide) rfl (fun ls hl => ?_)
        refine lv_bipush (v := (10 : Int32)) hx hb dX8_best_52 (by decide) ?_
        refine lv_iload_n hx hb dX8_best_54 rfl (lv_at hl 4 rfl) ?_
        refine lv_imul hx hb dX8_best_55 ?_
        refine lv_iload hx hb dX8_best_56 (lv_at hl 5 rfl) ?_
        refine lv_iadd hx hb dX8_best_58 ?_
        refine lv_istore_n (lv' := [(1, .int (((10 : Int32) * v3) + v4)), (2, .int o2.1), (5, .int o2.1), (0, .ref (ad 0)), (3, .int v3), (4, .int v4)]) hx hb dX8_best_59 rfl hl (by decide) rfl (fun ls hl => ?_)
        refine lv_iinc (v := (v4 + (1 : Int32))) (lv' := [(4, .int (v4 + (1 : Int32))), (1, .int (((10 : Int32) * v3) + v4)), (2, .int o2.1), (5, .int o2.1), (0, .ref (ad 0)), (3, .int v3)]) hx hb dX8_best_60 hl (k := 5) rfl rfl (by decide) rfl (fun ls hl => ?_)
        refine lv_goto (tgt := 14) hx hb dX8_best_63 (by decide) ?_
        exact hrec14 (((10 : Int32) * v3) + v4) o2.1 v3 (v4 + (1 : Int32)) o2.2 _ _ _ hw (lv_sub hl [4, 1, 2, 5, 0] rfl) h
      · replace h := q_f h c3
        refine lv_iload hx hb dX8_best_43 (lv_at hl 0 rfl) ?_
        refine lv_iload_n hx hb dX8_best_45 rfl (lv_at hl 3 rfl) ?_
        refine lv_icmp_ge (tgt := 60) hx hb dX8_best_46 (by decide) (fun c4 => ?_) (fun c4 => ?_)
        · replace h := q_t h c4
          refine lv_iinc (v := (v4 + (1 : Int32))) (lv' := [(4, .int (v4 + (1 : Int32))), (5, .int o2.1), (0, .ref (ad 0)), (1, .int v1), (2, .int v2), (3, .int v3)]) hx hb dX8_best_60 hl (k := 5) rfl rfl (by decide) rfl (fun ls hl => ?_)
          refine lv_goto (tgt := 14) hx hb dX8_best_63 (by decide) ?_
          exact hrec14 v1 v2 v3 (v4 + (1 : Int32)) o2.2 _ _ _ hw (lv_sub hl [2, 3, 4, 5, 0] rfl) h
        · replace h := q_f h c4
          refine lv_iload hx hb dX8_best_49 (lv_at hl 0 rfl) ?_
          refine lv_istore_n (lv' := [(2, .int o2.1), (5, .int o2.1), (0, .ref (ad 0)), (1, .int v1), (3, .int v3), (4, .int v4)]) hx hb dX8_best_51 rfl hl (by decide) rfl (fun ls hl => ?_)
          refine lv_bipush (v := (10 : Int32)) hx hb dX8_best_52 (by decide) ?_
          refine lv_iload_n hx hb dX8_best_54 rfl (lv_at hl 4 rfl) ?_
          refine lv_imul hx hb dX8_best_55 ?_
          refine lv_iload hx hb dX8_best_56 (lv_at hl 5 rfl) ?_
          refine lv_iadd hx hb dX8_best_58 ?_
          refine lv_istore_n (lv' := [(1, .int (((10 : Int32) * v3) + v4)), (2, .int o2.1), (5, .int o2.1), (0, .ref (ad 0)), (3, .int v3), (4, .int v4)]) hx hb dX8_best_59 rfl hl (by decide) rfl (fun ls hl => ?_)
          refine lv_iinc (v := (v4 + (1 : Int32))) (lv' := [(4, .int (v4 + (1 : Int32))), (1, .int (((10 : Int32) * v3) + v4)), (2, .int o2.1), (5, .int o2.1), (0, .ref (ad 0)), (3, .int v3)]) hx hb dX8_best_60 hl (k := 5) rfl rfl (by decide) rfl (fun ls hl => ?_)
          refine lv_goto (tgt := 14) hx hb dX8_best_63 (by decide) ?_
          exact hrec14 (((10 : Int32) * v3) + v4) o2.1 v3 (v4 + (1 : Int32)) o2.2 _ _ _ hw (lv_sub hl [4, 1, 2, 5, 0] rfl) h
set_option maxHeartbeats 4000000 in
set_option maxRecDepth 100000 in
theorem tX8_best_c6   (C0 : CallFix p m c cX8_best 6 s args wsX8_best RX8) (hr : meth.sig.returnType = (some .int)) (hlk : meth.locks = false) {out : Int32 × q_M}  : ∀ n : Nat, ∀ (v1 : Int32) (v2 : Int32) (v3 : Int32) (σ : q_M) (H : Heap) (locs : List Loc) (ls : Array Slot), q_H (gX D cI cJ cS ad adK adV) (q_A (gX D cI cJ cS ad adK adV) s.heap.size) s σ H locs → lv_has ls 6 [(0, .ref (ad 0)), (1, .int v1), (2, .int v2), (3, .int v3)] → fX8_best_c6  n v1 v2 v3 σ = some out → W p l e { frames := 5, cells := 0, slots := 0, locals := 125 } s m args below meth c H locs 0 0 (MQ below (q_Ri (gX D cI cJ cS ad adK adV) (q_A (gX D cI cJ cS ad adK adV) s.heap.size) out) args s 0 0 (q_A (gX D cI cJ cS ad adK adV) s.heap.size)) (F0 m 6 ls []) := by
  obtain ⟨hx, hb, hml, hown, hts⟩ := id C0
  intro n
  induction n with
  | zero =>
    intro v1 v2 v3 σ H locs ls  hw hl h
    cases (show (none : Option (Int32 × q_M)) = some out from h)
  | succ n hrec6 =>
    intro v1 v2 v3 σ H locs ls  hw hl h
    replace h : fX8_best_c6b  (fX8_best_c6  n) v1 v2 v3 σ = some out := h
    unfold fX8_best_c6b at h
    refine lv_iload_n hx hb dX8_best_6 rfl (lv_at hl 3 rfl) ?_
    refine lv_iconst (v := (3 : Int32)) hx hb dX8_best_7 (by decide) ?_
    refine lv_icmp_ge (tgt := 72) hx hb dX8_best_8 (by decide) (fun c1 => ?_) (fun c1 => ?_)
    · replace h := q_t h c1
      refine lv_iload_n hx hb dX8_best_72 rfl (lv_at hl 1 rfl) ?_
      exact q_iret h C0 hr hlk hw dX8_best_73
    · replace h := q_f h c1
      refine lv_iconst (v := (1 : Int32)) hx hb dX8_best_11 (by decide) ?_
      refine lv_istore (lv' := [(4, .int (1 : Int32)), (0, .ref (ad 0)), (1, .int v1), (2, .int v2), (3, .int v3)]) hx hb dX8_best_12 hl (by decide) rfl (fun ls hl => ?_)
      exact tX8_best_c14 C0 hr hlk hrec6 q_FU v1 v2 v3 (1 : Int32) σ _ _ _ hw (lv_sub hl [1, 2, 3, 4, 0] rfl) h
set_option maxHeartbeats 4000000 in
set_option maxRecDepth 100000 in
theorem kX8_best   {σ : q_M} {out : Int32 × q_M} (h : fX8_best  σ = some out) : q_Mi l (gX D cI cJ cS ad adK adV) yX8_best wsX8_best { frames := 5, cells := 0, slots := 0, locals := 125 } [.ref (ad 0)] σ out := by
  refine q_Mi_of (cc := cX8_best) (maxL := 6) (ret := (some .int)) (by decide) rfl (Nat.le_of_ble_eq_true rfl) ?_
  intro p e s m below meth c ls C0 hr hlk hl hw
  obtain ⟨hx, hb, hml, hown, hts⟩ := id C0
  replace hl : lv_has ls 6 [(0, .ref (ad 0))] := hl
  unfold fX8_best at h
  refine lv_iconst (v := (-1 : Int32)) hx hb dX8_best_0 (by decide) ?_
  refine lv_istore_n (lv' := [(1, .int (-1 : Int32)), (0, .ref (ad 0))]) hx hb dX8_best_1 rfl hl (by decide) rfl (fun ls hl => ?_)
  refine lv_iconst (v := (0 : Int32)) hx hb dX8_best_2 (by decide) ?_
  refine lv_istore_n (lv' := [(2, .int (0 : Int32)), (1, .int (-1 : Int32)), (0, .ref (ad 0))]) hx hb dX8_best_3 rfl hl (by decide) rfl (fun ls hl => ?_)
  refine lv_iconst (v := (0 : Int32)) hx hb dX8_best_4 (by decide) ?_
  refine lv_istore_n (lv' := [(3, .int (0 : Int32)), (2, .int (0 : Int32)), (1, .int (-1 : Int32)), (0, .ref (ad 0))]) hx hb dX8_best_5 rfl hl (by decide) rfl (fun ls hl => ?_)
  exact tX8_best_c6 C0 hr hlk q_FU (-1 : Int32) (0 : Int32) (0 : Int32) σ _ _ _ hw (lv_sub hl [3, 2, 1, 0] rfl) h
-- X8_helps helps(I)I
theorem iX8_helps_X6 : ∀ w ∈ wsX60, w ∈ wsX8_helps := by decide +kernel
theorem iX8_helps_X8 : ∀ w ∈ wsX80, w ∈ wsX8_helps := by decide +kernel
set_option maxHeartbeats 4000000 in
set_option maxRecDepth 100000 in
theorem kX8_helps {p1 : Int32}  {σ : q_M} {out : Int32 × q_M} (h : fX8_helps p1 σ = some out) : q_Mi l (gX D cI cJ cS ad adK adV) yX8_helps wsX8_helps { frames := 4, cells := 0, slots := 0, locals := 105 } [.ref (ad 0), .int p1] σ out := by
  refine q_Mi_of (cc := cX8_helps) (maxL := 3) (ret := (some .int)) (by decide) rfl (Nat.le_of_ble_eq_true rfl) ?_
  intro p e s m below meth c ls C0 hr hlk hl hw
  obtain ⟨hx, hb, hml, hown, hts⟩ := id C0
  replace hl : lv_has ls 3 [(0, .ref (ad 0)), (1, .int p1)] := hl
  unfold fX8_helps at h
  refine lv_aload_n hx hb dX8_helps_0 rfl (lv_at hl 0 rfl) ?_
  refine lv_iload_n hx hb dX8_helps_1 rfl (lv_at hl 1 rfl) ?_
  obtain ⟨o1, hco1, h⟩ := q_bind h
  refine q_calli hw (va_runV (As := [.int p1]) (rest := []) C0 (kX8_moveRefusal hco1 _) (cwV 1 hts gX8_helps_X8_moveRefusal rfl rfl rfl eX8_moveRefusal ⟨(Nat.le_of_ble_eq_true rfl), (Nat.le_of_ble_eq_true rfl)⟩) ⟨q_blind, q_recv hw (xN_0 xF_0) (xE_0 xF_0) rfl, q_pre hw⟩ rfl rfl hl.1 rfl (lv_room (Nat.le_of_ble_eq_true rfl)) dX8_helps_2 ⟨Nat.zero_le _, Nat.zero_le _⟩) (fun H locs hw => ?_)
  refine lv_istore_n (lv' := [(2, .int o1.1), (0, .ref (ad 0)), (1, .int p1)]) hx hb dX8_helps_5 rfl hl (by decide) rfl (fun ls hl => ?_)
  refine lv_iload_n hx hb dX8_helps_6 rfl (lv_at hl 0 rfl) ?_
  refine lv_if_eq (tgt := 16) hx hb dX8_helps_7 (by decide) (fun c2 => ?_) (fun c2 => ?_)
  · replace h := q_t h c2
    refine lv_aload_n hx hb dX8_helps_16 rfl (lv_at hl 1 rfl) ?_
    refine lv_aload_n hx hb dX8_helps_17 rfl (lv_at hl 1 rfl) ?_
    refine gt_X8_4 C0 hw xF_0 iX8_helps_X8 (by decide +kernel) dX8_helps_18 ?_
    refine lv_iload_n hx hb dX8_helps_21 rfl (lv_at hl 2 rfl) ?_
    obtain ⟨b3, h⟩ := q_if h
    refine q_aald (t0 := 2) C0 hw (xN_8 xF_22) (xE_8 xF_22) rfl b3 rfl dX8_helps_22 ?_
    refine gt_X6_2 C0 hw (xSh b3) iX8_helps_X6 (by decide +kernel) dX8_helps_23 ?_
    refine lv_aload_n hx hb dX8_helps_26 rfl (lv_at hl 1 rfl) ?_
    obtain ⟨o4, hco4, h⟩ := q_bind h
    refine q_callr hw (va_runV (As := []) (rest := [.ref (ad ((31 + 4 * p1.toNatClampNeg) + 3)), .ref (ad 0)]) C0 (kX8_lookAtFigure hco4 _) (cwV 0 hts gX8_helps_X8_lookAtFigure rfl rfl rfl eX8_lookAtFigure ⟨(Nat.le_of_ble_eq_true rfl), (Nat.le_of_ble_eq_true rfl)⟩) ⟨q_blind, q_recv hw (xN_0 xF_0) (xE_0 xF_0) rfl, q_pre hw⟩ rfl rfl hl.1 rfl (lv_room (Nat.le_of_ble_eq_true rfl)) dX8_helps_27 ⟨Nat.zero_le _, Nat.zero_le _⟩) (fun H locs hw => ?_)
    obtain ⟨o5, hco5, h⟩ := q_bind h
    refine q_calll hw (va_runV (As := []) (rest := [.ref (ad ((31 + 4 * p1.toNatClampNeg) + 3)), .ref (ad 0)]) C0 (kX1_neverFree hco5 _) (cwV 0 hts gX8_helps_X1_neverFree rfl rfl rfl eX1_neverFree ⟨(Nat.le_of_ble_eq_true rfl), (Nat.le_of_ble_eq_true rfl)⟩) ⟨q_blind, q_recv hw (xN_11 xF_25) (xE_11 xF_25) rfl, q_pre hw⟩ rfl rfl hl.1 rfl (lv_room (Nat.le_of_ble_eq_true rfl)) dX8_helps_30 ⟨Nat.zero_le _, Nat.zero_le _⟩) (fun H locs hw => ?_)
    obtain ⟨o6, hco6, h⟩ := q_bind h
    refine q_calli hw (va_runV (As := [.ref (ad ((31 + 4 * p1.toNatClampNeg) + 3)), .long o5.1]) (rest := []) C0 (kX8_countComing (xD_15_3 (xSh b3)) hco6 _) (cwV 2 hts gX8_helps_X8_countComing rfl rfl rfl eX8_countComing ⟨(Nat.le_of_ble_eq_true rfl), (Nat.le_of_ble_eq_true rfl)⟩) ⟨q_blind, q_recv hw (xN_0 xF_0) (xE_0 xF_0) rfl, q_pre hw⟩ rfl rfl hl.1 rfl (lv_room (Nat.le_of_ble_eq_true rfl)) dX8_helps_33 ⟨Nat.zero_le _, Nat.zero_le _⟩) (fun H locs hw => ?_)
    exact q_iret h C0 hr hlk hw dX8_helps_36
  · replace h := q_f h c2
    refine lv_aload_n hx hb dX8_helps_10 rfl (lv_at hl 1 rfl) ?_
    refine lv_iload_n hx hb dX8_helps_11 rfl (lv_at hl 0 rfl) ?_
    obtain ⟨o7, hco7, h⟩ := q_bind h
    refine q_calli hw (va_runV (As := [.int o1.1]) (rest := []) C0 (kX8_refuse hco7 _) (cwV 1 hts gX8_helps_X8_refuse rfl rfl rfl eX8_refuse ⟨(Nat.le_of_ble_eq_true rfl), (Nat.le_of_ble_eq_true rfl)⟩) ⟨q_blind, q_recv hw (xN_0 xF_0) (xE_0 xF_0) rfl, q_pre hw⟩ rfl rfl hl.1 rfl (lv_room (Nat.le_of_ble_eq_true rfl)) dX8_helps_12 ⟨Nat.zero_le _, Nat.zero_le _⟩) (fun H locs hw => ?_)
    exact q_iret h C0 hr hlk hw dX8_helps_15
-- X8_slide slide(IJI)J
theorem iX8_slide_X0 : ∀ w ∈ wsX00, w ∈ wsX8_slide := by decide +kernel
theorem iX8_slide_X2 : ∀ w ∈ wsX20, w ∈ wsX8_slide := by decide +kernel
theorem iX8_slide_X6 : ∀ w ∈ wsX60, w ∈ wsX8_slide := by decide +kernel
theorem iX8_slide_X8 : ∀ w ∈ wsX80, w ∈ wsX8_slide := by decide +kernel
theorem eX3_carried : yX3_carried.cls = RX3 ∧ yX3_carried.cls ≠ "java/lang/invoke/MethodHandle" ∧ yX3_carried.cls ≠ "java/lang/invoke/VarHandle" ∧ (parseMethodDescriptor yX3_carried.desc).map (fun d => d.parameters.length) = some 3 := by decide +kernel
set_option maxHeartbeats 4000000 in
set_option maxRecDepth 100000 in
theorem tX8_slide_c22 {p1 : Int32} {p2 : Int64} {p4 : Int32}  (C0 : CallFix p m c cX8_slide 6 s args wsX8_slide RX8) (hr : meth.sig.returnType = (some .long)) (hlk : meth.locks = false) {out : Int64 × q_M}  : ∀ (s0 : Int32) (σ : q_M) (H : Heap) (locs : List Loc) (ls : Array Slot), q_H (gX D cI cJ cS ad adK adV) (q_A (gX D cI cJ cS ad adK adV) s.heap.size) s σ H locs → lv_has ls 6 [(0, .ref (ad 0)), (1, .int p1), (2, .long p2), (4, .int p4)] → fX8_slide_c22 p1 p2 p4 s0 σ = some out → W p l e { frames := 2, cells := 0, slots := 0, locals := 53 } s m args below meth c H locs 0 0 (MQ below (q_Rl (gX D cI cJ cS ad adK adV) (q_A (gX D cI cJ cS ad adK adV) s.heap.size) out) args s 0 0 (q_A (gX D cI cJ cS ad adK adV) s.heap.size)) (F0 m 22 ls [.int s0]) := by
  obtain ⟨hx, hb, hml, hown, hts⟩ := id C0
  intro s0 σ H locs ls  hw hl h
  unfold fX8_slide_c22 at h
  refine lv_istore (lv' := [(5, .int s0), (0, .ref (ad 0)), (1, .int p1), (2, .long p2), (4, .int p4)]) hx hb dX8_slide_22 hl (by decide) rfl (fun ls hl => ?_)
  refine lv_iload hx hb dX8_slide_24 (lv_at hl 0 rfl) ?_
  refine lv_if_eq (tgt := 37) hx hb dX8_slide_26 (by decide) (fun c1 => ?_) (fun c1 => ?_)
  · replace h := q_t h c1
    refine lv_aload_n hx hb dX8_slide_37 rfl (lv_at hl 1 rfl) ?_
    refine gt_X8_4 C0 hw xF_0 iX8_slide_X8 (by decide +kernel) dX8_slide_38 ?_
    refine lv_iload_n hx hb dX8_slide_41 rfl (lv_at hl 2 rfl) ?_
    obtain ⟨b2, h⟩ := q_if h
    refine q_aald (t0 := 2) C0 hw (xN_8 xF_22) (xE_8 xF_22) rfl b2 rfl dX8_slide_42 ?_
    refine gt_X6_2 C0 hw (xSh b2) iX8_slide_X6 (by decide +kernel) dX8_slide_43 ?_
    refine lv_aload_n hx hb dX8_slide_46 rfl (lv_at hl 1 rfl) ?_
    refine gt_X8_0 C0 hw xF_0 iX8_slide_X8 (by decide +kernel) dX8_slide_47 ?_
    refine gt_X2_0 C0 hw xF_1 iX8_slide_X2 (by decide +kernel) dX8_slide_50 ?_
    refine lv_lload_n hx hb dX8_slide_53 rfl (lv_at hl 3 rfl) ?_
    refine lv_aload_n hx hb dX8_slide_54 rfl (lv_at hl 1 rfl) ?_
    refine gt_X8_0 C0 hw xF_0 iX8_slide_X8 (by decide +kernel) dX8_slide_55 ?_
    refine gt_X2_0 C0 hw xF_1 iX8_slide_X2 (by decide +kernel) dX8_slide_58 ?_
    refine gt_X0_2 C0 hw xF_2 iX8_slide_X0 (by decide +kernel) dX8_slide_61 ?_
    refine lv_land hx hb dX8_slide_64 ?_
    refine lv_iload hx hb dX8_slide_65 (lv_at hl 4 rfl) ?_
    obtain ⟨o3, hco3, h⟩ := q_bind h
    refine q_calll hw (va_runV (As := [.ref (ad 2), .long (p2 &&& (σ.2 2 2)), .int p4]) (rest := []) C0 (kX3_carried (xD_15_3 (xSh b2)) xF_2 hco3 _) (cwV 3 hts gX8_slide_X3_carried rfl rfl rfl eX3_carried ⟨(Nat.le_of_ble_eq_true rfl), (Nat.le_of_ble_eq_true rfl)⟩) ⟨q_blind, q_recv hw (xN_18 (xD_15_3 (xSh b2))) (xE_18 (xD_15_3 (xSh b2))) rfl, q_pre hw⟩ rfl rfl hl.1 rfl (lv_room (Nat.le_of_ble_eq_true rfl)) dX8_slide_67 ⟨Nat.zero_le _, Nat.zero_le _⟩) (fun H locs hw => ?_)
    exact q_lret h C0 hr hlk hw dX8_slide_70
  · replace h := q_f h c1
    refine lv_aload_n hx hb dX8_slide_29 rfl (lv_at hl 1 rfl) ?_
    refine lv_iload hx hb dX8_slide_30 (lv_at hl 0 rfl) ?_
    obtain ⟨o4, hco4, h⟩ := q_bind h
    refine q_calli hw (va_runV (As := [.int s0]) (rest := []) C0 (kX8_refuse hco4 _) (cwV 1 hts gX8_slide_X8_refuse rfl rfl rfl eX8_refuse ⟨(Nat.le_of_ble_eq_true rfl), (Nat.le_of_ble_eq_true rfl)⟩) ⟨q_blind, q_recv hw (xN_0 xF_0) (xE_0 xF_0) rfl, q_pre hw⟩ rfl rfl hl.1 rfl (lv_room (Nat.le_of_ble_eq_true rfl)) dX8_slide_32 ⟨Nat.zero_le _, Nat.zero_le _⟩) (fun H locs hw => ?_)
    refine lv_i2l hx hb dX8_slide_35 rfl ?_
    exact q_lret h C0 hr hlk hw dX8_slide_36
set_option maxHeartbeats 4000000 in
set_option maxRecDepth 100000 in
theorem kX8_slide {p1 : Int32} {p2 : Int64} {p4 : Int32}  {σ : q_M} {out : Int64 × q_M} (h : fX8_slide p1 p2 p4 σ = some out) : q_Ml l (gX D cI cJ cS ad adK adV) yX8_slide wsX8_slide { frames := 2, cells := 0, slots := 0, locals := 53 } [.ref (ad 0), .int p1, .long p2, .int p4] σ out := by
  refine q_Ml_of (cc := cX8_slide) (maxL := 6) (ret := (some .long)) (by decide) rfl (Nat.le_of_ble_eq_true rfl) ?_
  intro p e s m below meth c ls C0 hr hlk hl hw
  obtain ⟨hx, hb, hml, hown, hts⟩ := id C0
  replace hl : lv_has ls 6 [(0, .ref (ad 0)), (1, .int p1), (2, .long p2), (4, .int p4)] := hl
  unfold fX8_slide at h
  refine lv_iload hx hb dX8_slide_0 (lv_at hl 3 rfl) ?_
  refine lv_if_lt (tgt := 12) hx hb dX8_slide_2 (by decide) (fun c1 => ?_) (fun c1 => ?_)
  · replace h := q_t h c1
    refine lv_bipush (v := (-2 : Int32)) hx hb dX8_slide_12 (by decide) ?_
    refine lv_goto (tgt := 22) hx hb dX8_slide_14 (by decide) ?_
    exact tX8_slide_c22 C0 hr hlk (-2 : Int32) σ _ _ _ hw (lv_sub hl [0, 1, 2, 3] rfl) h
  · replace h := q_f h c1
    refine lv_iload hx hb dX8_slide_5 (lv_at hl 3 rfl) ?_
    refine lv_bipush (v := (9 : Int32)) hx hb dX8_slide_7 (by decide) ?_
    refine lv_icmp_le (tgt := 17) hx hb dX8_slide_9 (by decide) (fun c2 => ?_) (fun c2 => ?_)
    · replace h := q_t h c2
      refine lv_aload_n hx hb dX8_slide_17 rfl (lv_at hl 0 rfl) ?_
      refine lv_iload_n hx hb dX8_slide_18 rfl (lv_at hl 1 rfl) ?_
      obtain ⟨o3, hco3, h⟩ := q_bind h
      refine q_calli hw (va_runV (As := [.int p1]) (rest := []) C0 (kX8_moveRefusal hco3 _) (cwV 1 hts gX8_slide_X8_moveRefusal rfl rfl rfl eX8_moveRefusal ⟨(Nat.le_of_ble_eq_true rfl), (Nat.le_of_ble_eq_true rfl)⟩) ⟨q_blind, q_recv hw (xN_0 xF_0) (xE_0 xF_0) rfl, q_pre hw⟩ rfl rfl hl.1 rfl (lv_room (Nat.le_of_ble_eq_true rfl)) dX8_slide_19 ⟨Nat.zero_le _, Nat.zero_le _⟩) (fun H locs hw => ?_)
      exact tX8_slide_c22 C0 hr hlk o3.1 o3.2 _ _ _ hw (lv_sub hl [0, 1, 2, 3] rfl) h
    · replace h := q_f h c2
      refine lv_bipush (v := (-2 : Int32)) hx hb dX8_slide_12 (by decide) ?_
      refine lv_goto (tgt := 22) hx hb dX8_slide_14 (by decide) ?_
      exact tX8_slide_c22 C0 hr hlk (-2 : Int32) σ _ _ _ hw (lv_sub hl [0, 1, 2, 3] rfl) h
-- X8_tunnels tunnels(I)I
theorem iX8_tunnels_X0 : ∀ w ∈ wsX00, w ∈ wsX8_tunnels := by decide +kernel
theorem iX8_tunnels_X2 : ∀ w ∈ wsX20, w ∈ wsX8_tunnels := by decide +kernel
theorem iX8_tunnels_X8 : ∀ w ∈ wsX80, w ∈ wsX8_tunnels := by decide +kernel
set_option maxHeartbeats 4000000 in
set_option maxRecDepth 100000 in
theorem kX8_tunnels {p1 : Int32}  {σ : q_M} {out : Int32 × q_M} (h : fX8_tunnels p1 σ = some out) : q_Mi l (gX D cI cJ cS ad adK adV) yX8_tunnels wsX8_tunnels { frames := 2, cells := 0, slots := 0, locals := 54 } [.ref (ad 0), .int p1] σ out := by
  refine q_Mi_of (cc := cX8_tunnels) (maxL := 5) (ret := (some .int)) (by decide) rfl (Nat.le_of_ble_eq_true rfl) ?_
  intro p e s m below meth c ls C0 hr hlk hl hw
  obtain ⟨hx, hb, hml, hown, hts⟩ := id C0
  replace hl : lv_has ls 5 [(0, .ref (ad 0)), (1, .int p1)] := hl
  unfold fX8_tunnels at h
  refine lv_iload_n hx hb dX8_tunnels_0 rfl (lv_at hl 1 rfl) ?_
  obtain ⟨o1, hco1, h⟩ := q_bind h
  refine q_calli hw (va_runS (As := [.int p1]) (rest := []) C0 (kX8_isAxis hco1 _) (va_cwS 1 hts gX8_tunnels_X8_isAxis rfl rfl rfl eX8_isAxis ⟨(Nat.le_of_ble_eq_true rfl), (Nat.le_of_ble_eq_true rfl)⟩) ⟨q_blind, q_pre hw⟩ rfl rfl hl.1 rfl (lv_room (Nat.le_of_ble_eq_true rfl)) dX8_tunnels_1 ⟨Nat.zero_le _, Nat.zero_le _⟩) (fun H locs hw => ?_)
  refine lv_if_ne (tgt := 14) hx hb dX8_tunnels_4 (by decide) (fun c2 => ?_) (fun c2 => ?_)
  · replace h := q_f h c2
    refine lv_aload_n hx hb dX8_tunnels_14 rfl (lv_at hl 0 rfl) ?_
    refine gt_X8_0 C0 hw xF_0 iX8_tunnels_X8 (by decide +kernel) dX8_tunnels_15 ?_
    refine gt_X2_0 C0 hw xF_1 iX8_tunnels_X2 (by decide +kernel) dX8_tunnels_18 ?_
    refine lv_astore_n (lv' := [(2, .ref (ad 2)), (0, .ref (ad 0)), (1, .int p1)]) hx hb dX8_tunnels_21 rfl hl (by decide) rfl (fun ls hl => ?_)
    refine lv_aload_n hx hb dX8_tunnels_22 rfl (lv_at hl 1 rfl) ?_
    refine gt_X8_0 C0 hw xF_0 iX8_tunnels_X8 (by decide +kernel) dX8_tunnels_23 ?_
    refine gt_X2_1 C0 hw xF_1 iX8_tunnels_X2 (by decide +kernel) dX8_tunnels_26 ?_
    refine lv_aload_n hx hb dX8_tunnels_29 rfl (lv_at hl 0 rfl) ?_
    refine lv_aload_n hx hb dX8_tunnels_30 rfl (lv_at hl 1 rfl) ?_
    refine gt_X8_0 C0 hw xF_0 iX8_tunnels_X8 (by decide +kernel) dX8_tunnels_31 ?_
    refine gt_X2_1 C0 hw xF_1 iX8_tunnels_X2 (by decide +kernel) dX8_tunnels_34 ?_
    refine lv_iconst (v := (2 : Int32)) hx hb dX8_tunnels_37 (by decide) ?_
    refine lv_iload_n hx hb dX8_tunnels_38 rfl (lv_at hl 2 rfl) ?_
    refine lv_imul hx hb dX8_tunnels_39 ?_
    obtain ⟨o3, hco3, h⟩ := q_bind h
    refine q_calll hw (va_runV (As := [.long (o1.2.2 1 1), .int ((2 : Int32) * p1)]) (rest := [.long (o1.2.2 1 1)]) C0 (kX0_behind xF_2 hco3 _) (cwV 2 hts gX8_tunnels_X0_behind rfl rfl rfl eX0_behind ⟨(Nat.le_of_ble_eq_true rfl), (Nat.le_of_ble_eq_true rfl)⟩) ⟨q_blind, q_recv hw (xN_2 xF_2) (xE_2 xF_2) rfl, q_pre hw⟩ rfl rfl hl.1 rfl (lv_room (Nat.le_of_ble_eq_true rfl)) dX8_tunnels_40 ⟨Nat.zero_le _, Nat.zero_le _⟩) (fun H locs hw => ?_)
    refine lv_lor hx hb dX8_tunnels_43 ?_
    refine lv_aload_n hx hb dX8_tunnels_44 rfl (lv_at hl 0 rfl) ?_
    refine lv_iload_n hx hb dX8_tunnels_45 rfl (lv_at hl 2 rfl) ?_
    refine lv_iconst (v := (0 : Int32)) hx hb dX8_tunnels_46 (by decide) ?_
    obtain ⟨o4, hco4, h⟩ := q_bind h
    refine q_calll hw (va_runV (As := [.int p1, .int (0 : Int32)]) (rest := [.long ((o1.2.2 1 1) ||| o3.1)]) C0 (kX0_layer xF_2 hco4 _) (cwV 2 hts gX8_tunnels_X0_layer rfl rfl rfl eX0_layer ⟨(Nat.le_of_ble_eq_true rfl), (Nat.le_of_ble_eq_true rfl)⟩) ⟨q_blind, q_recv hw (xN_2 xF_2) (xE_2 xF_2) rfl, q_pre hw⟩ rfl rfl hl.1 rfl (lv_room (Nat.le_of_ble_eq_true rfl)) dX8_tunnels_47 ⟨Nat.zero_le _, Nat.zero_le _⟩) (fun H locs hw => ?_)
    refine lv_land hx hb dX8_tunnels_50 ?_
    refine lv_topl (fun x5 e_x5 => ?_)
    replace h := q_let_at e_x5 h
    refine lv_lstore_n (lv' := [(3, .long x5), (2, .ref (ad 2)), (0, .ref (ad 0)), (1, .int p1)]) hx hb dX8_tunnels_51 rfl hl (by decide) rfl (fun ls hl => ?_)
    refine lv_aload_n hx hb dX8_tunnels_52 rfl (lv_at hl 1 rfl) ?_
    refine gt_X0_0 C0 hw xF_2 iX8_tunnels_X0 (by decide +kernel) dX8_tunnels_53 ?_
    refine lv_aload_n hx hb dX8_tunnels_56 rfl (lv_at hl 1 rfl) ?_
    refine gt_X0_0 C0 hw xF_2 iX8_tunnels_X0 (by decide +kernel) dX8_tunnels_57 ?_
    refine lv_imul hx hb dX8_tunnels_60 ?_
    refine lv_lload_n hx hb dX8_tunnels_61 rfl (lv_at hl 0 rfl) ?_
    obtain ⟨o6, hco6, h⟩ := q_bind h
    refine q_calli hw (va_runS (As := [.long x5]) (rest := [.int ((o4.2.1 2 0) * (o4.2.1 2 0))]) C0 (kJ13_bitCount_95d88 hco6 _) (va_cwS 1 hts gX8_tunnels_J13_bitCount_95d88 rfl rfl rfl eJ13_bitCount_95d88 ⟨(Nat.le_of_ble_eq_true rfl), (Nat.le_of_ble_eq_true rfl)⟩) ⟨q_blind, q_pre hw⟩ rfl rfl hl.1 rfl (lv_room (Nat.le_of_ble_eq_true rfl)) dX8_tunnels_62 ⟨Nat.zero_le _, Nat.zero_le _⟩) (fun H locs hw => ?_)
    refine lv_isub hx hb dX8_tunnels_65 ?_
    exact q_iret h C0 hr hlk hw dX8_tunnels_66
  · replace h := q_t h c2
    refine lv_aload_n hx hb dX8_tunnels_7 rfl (lv_at hl 0 rfl) ?_
    refine lv_bipush (v := (-2 : Int32)) hx hb dX8_tunnels_8 (by decide) ?_
    obtain ⟨o7, hco7, h⟩ := q_bind h
    refine q_calli hw (va_runV (As := [.int (-2 : Int32)]) (rest := []) C0 (kX8_refuse hco7 _) (cwV 1 hts gX8_tunnels_X8_refuse rfl rfl rfl eX8_refuse ⟨(Nat.le_of_ble_eq_true rfl), (Nat.le_of_ble_eq_true rfl)⟩) ⟨q_blind, q_recv hw (xN_0 xF_0) (xE_0 xF_0) rfl, q_pre hw⟩ rfl rfl hl.1 rfl (lv_room (Nat.le_of_ble_eq_true rfl)) dX8_tunnels_10 ⟨Nat.zero_le _, Nat.zero_le _⟩) (fun H locs hw => ?_)
    exact q_iret h C0 hr hlk hw dX8_tunnels_13
-- X8_needed needed()J
theorem iX8_needed_X0 : ∀ w ∈ wsX00, w ∈ wsX8_needed := by decide +kernel
theorem iX8_needed_X2 : ∀ w ∈ wsX20, w ∈ wsX8_needed := by decide +kernel
theorem iX8_needed_X8 : ∀ w ∈ wsX80, w ∈ wsX8_needed := by decide +kernel
theorem eX0_holdsTogether : yX0_holdsTogether.cls = RX0 ∧ yX0_holdsTogether.cls ≠ "java/lang/invoke/MethodHandle" ∧ yX0_holdsTogether.cls ≠ "java/lang/invoke/VarHandle" ∧ (parseMethodDescriptor yX0_holdsTogether.desc).map (fun d => d.parameters.length) = some 2 := by decide +kernel
set_option maxHeartbeats 4000000 in
set_option maxRecDepth 100000 in
theorem tX8_needed_c4   (C0 : CallFix p m c cX8_needed 6 s args wsX8_needed RX8) (hr : meth.sig.returnType = (some .long)) (hlk : meth.locks = false) {out : Int64 × q_M}  : ∀ n : Nat, ∀ (v1 : Int64) (v3 : Int32) (σ : q_M) (H : Heap) (locs : List Loc) (ls : Array Slot), q_H (gX D cI cJ cS ad adK adV) (q_A (gX D cI cJ cS ad adK adV) s.heap.size) s σ H locs → lv_has ls 6 [(0, .ref (ad 0)), (1, .long v1), (3, .int v3)] → fX8_needed_c4  n v1 v3 σ = some out → W p l e { frames := 4, cells := 0, slots := 0, locals := 108 } s m args below meth c H locs 0 0 (MQ below (q_Rl (gX D cI cJ cS ad adK adV) (q_A (gX D cI cJ cS ad adK adV) s.heap.size) out) args s 0 0 (q_A (gX D cI cJ cS ad adK adV) s.heap.size)) (F0 m 4 ls []) := by
  obtain ⟨hx, hb, hml, hown, hts⟩ := id C0
  intro n
  induction n with
  | zero =>
    intro v1 v3 σ H locs ls  hw hl h
    cases (show (none : Option (Int64 × q_M)) = some out from h)
  | succ n hrec4 =>
    intro v1 v3 σ H locs ls  hw hl h
    replace h : fX8_needed_c4b  (fX8_needed_c4  n) v1 v3 σ = some out := h
    unfold fX8_needed_c4b at h
    refine lv_iload_n hx hb dX8_needed_4 rfl (lv_at hl 2 rfl) ?_
    refine lv_aload_n hx hb dX8_needed_5 rfl (lv_at hl 0 rfl) ?_
    refine gt_X8_0 C0 hw xF_0 iX8_needed_X8 (by decide +kernel) dX8_needed_6 ?_
    refine gt_X2_0 C0 hw xF_1 iX8_needed_X2 (by decide +kernel) dX8_needed_9 ?_
    refine gt_X0_1 C0 hw xF_2 iX8_needed_X0 (by decide +kernel) dX8_needed_12 ?_
    refine lv_icmp_ge (tgt := 71) hx hb dX8_needed_15 (by decide) (fun c1 => ?_) (fun c1 => ?_)
    · replace h := q_t h c1
      refine lv_lload_n hx hb dX8_needed_71 rfl (lv_at hl 1 rfl) ?_
      exact q_lret h C0 hr hlk hw dX8_needed_72
    · replace h := q_f h c1
      refine lv_lconst (v := (1 : Int64)) hx hb dX8_needed_18 (by decide) ?_
      refine lv_iload_n hx hb dX8_needed_19 rfl (lv_at hl 2 rfl) ?_
      refine lv_lshl (v := (q_shl (1 : Int64) v3)) hx hb dX8_needed_20 rfl ?_
      refine lv_lstore (lv' := [(4, .long (q_shl (1 : Int64) v3)), (0, .ref (ad 0)), (1, .long v1), (3, .int v3)]) hx hb dX8_needed_21 hl (by decide) rfl (fun ls hl => ?_)
      refine lv_aload_n hx hb dX8_needed_23 rfl (lv_at hl 1 rfl) ?_
      refine gt_X8_0 C0 hw xF_0 iX8_needed_X8 (by decide +kernel) dX8_needed_24 ?_
      refine gt_X2_1 C0 hw xF_1 iX8_needed_X2 (by decide +kernel) dX8_needed_27 ?_
      refine lv_lload hx hb dX8_needed_30 (lv_at hl 0 rfl) ?_
      refine lv_land hx hb dX8_needed_32 ?_
      refine lv_lconst (v := (0 : Int64)) hx hb dX8_needed_33 (by decide) ?_
      refine q_lcmp_eq (tgt := 65) C0 dX8_needed_34 dX8_needed_35 (by decide) (fun c2 => ?_) (fun c2 => ?_)
      · replace h := q_t h c2
        refine lv_iinc (v := (v3 + (1 : Int32))) (lv' := [(3, .int (v3 + (1 : Int32))), (4, .long (q_shl (1 : Int64) v3)), (0, .ref (ad 0)), (1, .long v1)]) hx hb dX8_needed_65 hl (k := 3) rfl rfl (by decide) rfl (fun ls hl => ?_)
        refine lv_goto (tgt := 4) hx hb dX8_needed_68 (by decide) ?_
        exact hrec4 v1 (v3 + (1 : Int32)) σ _ _ _ hw (lv_sub hl [2, 3, 0] rfl) h
      · replace h := q_f h c2
        refine lv_aload_n hx hb dX8_needed_38 rfl (lv_at hl 1 rfl) ?_
        refine gt_X8_0 C0 hw xF_0 iX8_needed_X8 (by decide +kernel) dX8_needed_39 ?_
        refine gt_X2_0 C0 hw xF_1 iX8_needed_X2 (by decide +kernel) dX8_needed_42 ?_
        refine lv_aload_n hx hb dX8_needed_45 rfl (lv_at hl 1 rfl) ?_
        refine gt_X8_0 C0 hw xF_0 iX8_needed_X8 (by decide +kernel) dX8_needed_46 ?_
        refine gt_X2_1 C0 hw xF_1 iX8_needed_X2 (by decide +kernel) dX8_needed_49 ?_
        refine lv_lload hx hb dX8_needed_52 (lv_at hl 0 rfl) ?_
        obtain ⟨o3, hco3, h⟩ := q_bind h
        refine q_calli hw (va_runV (As := [.long (σ.2 1 1), .long (q_shl (1 : Int64) v3)]) (rest := []) C0 (kX0_holdsTogether xF_2 hco3 _) (cwV 2 hts gX8_needed_X0_holdsTogether rfl rfl rfl eX0_holdsTogether ⟨(Nat.le_of_ble_eq_true rfl), (Nat.le_of_ble_eq_true rfl)⟩) ⟨q_blind, q_recv hw (xN_2 xF_2) (xE_2 xF_2) rfl, q_pre hw⟩ rfl rfl hl.1 rfl (lv_room (Nat.le_of_ble_eq_true rfl)) dX8_needed_54 ⟨Nat.zero_le _, Nat.zero_le _⟩) (fun H locs hw => ?_)
        refine lv_if_eq (tgt := 65) hx hb dX8_needed_57 (by decide) (fun c4 => ?_) (fun c4 => ?_)
        · replace h := q_t h c4
          refine lv_iinc (v := (v3 + (1 : Int32))) (lv' := [(3, .int (v3 + (1 : Int32))), (4, .long (q_shl (1 : Int64) v3)), (0, .ref (ad 0)), (1, .long v1)]) hx hb dX8_needed_65 hl (k := 3) rfl rfl (by decide) rfl (fun ls hl => ?_)
          refine lv_goto (tgt := 4) hx hb dX8_needed_68 (by decide) ?_
          exact hrec4 v1 (v3 + (1 : Int32)) o3.2 _ _ _ hw (lv_sub hl [2, 3, 0] rfl) h
        · replace h := q_f h c4
          refine lv_lload_n hx hb dX8_needed_60 rfl (lv_at hl 2 rfl) ?_
          refine lv_lload hx hb dX8_needed_61 (lv_at hl 0 rfl) ?_
          refine lv_lor hx hb dX8_needed_63 ?_
          refine lv_topl (fun x5 e_x5 => ?_)
          replace h := q_let_at e_x5 h
          refine lv_lstore_n (lv' := [(1, .long x5), (4, .long (q_shl (1 : Int64) v3)), (0, .ref (ad 0)), (3, .int v3)]) hx hb dX8_needed_64 rfl hl (by decide) rfl (fun ls hl => ?_)
          refine lv_iinc (v := (v3 + (1 : Int32))) (lv' := [(3, .int (v3 + (1 : Int32))), (1, .long x5), (4, .long (q_shl (1 : Int64) v3)), (0, .ref (ad 0))]) hx hb dX8_needed_65 hl (k := 3) rfl rfl (by decide) rfl (fun ls hl => ?_)
          refine lv_goto (tgt := 4) hx hb dX8_needed_68 (by decide) ?_
          exact hrec4 x5 (v3 + (1 : Int32)) o3.2 _ _ _ hw (lv_sub hl [3, 1, 0] rfl) h
set_option maxHeartbeats 4000000 in
set_option maxRecDepth 100000 in
theorem kX8_needed   {σ : q_M} {out : Int64 × q_M} (h : fX8_needed  σ = some out) : q_Ml l (gX D cI cJ cS ad adK adV) yX8_needed wsX8_needed { frames := 4, cells := 0, slots := 0, locals := 108 } [.ref (ad 0)] σ out := by
  refine q_Ml_of (cc := cX8_needed) (maxL := 6) (ret := (some .long)) (by decide) rfl (Nat.le_of_ble_eq_true rfl) ?_
  intro p e s m below meth c ls C0 hr hlk hl hw
  obtain ⟨hx, hb, hml, hown, hts⟩ := id C0
  replace hl : lv_has ls 6 [(0, .ref (ad 0))] := hl
  unfold fX8_needed at h
  refine lv_lconst (v := (0 : Int64)) hx hb dX8_needed_0 (by decide) ?_
  refine lv_lstore_n (lv' := [(1, .long (0 : Int64)), (0, .ref (ad 0))]) hx hb dX8_needed_1 rfl hl (by decide) rfl (fun ls hl => ?_)
  refine lv_iconst (v := (0 : Int32)) hx hb dX8_needed_2 (by decide) ?_
  refine lv_istore_n (lv' := [(3, .int (0 : Int32)), (1, .long (0 : Int64)), (0, .ref (ad 0))]) hx hb dX8_needed_3 rfl hl (by decide) rfl (fun ls hl => ?_)
  exact tX8_needed_c4 C0 hr hlk q_FU (0 : Int64) (0 : Int32) σ _ _ _ hw (lv_sub hl [2, 1, 0] rfl) h
-- X8_alike alike()I
theorem iX8_alike_X2 : ∀ w ∈ wsX20, w ∈ wsX8_alike := by decide +kernel
theorem iX8_alike_X8 : ∀ w ∈ wsX80, w ∈ wsX8_alike := by decide +kernel
set_option maxHeartbeats 4000000 in
set_option maxRecDepth 100000 in
theorem tX8_alike_c4   (C0 : CallFix p m c cX8_alike 3 s args wsX8_alike RX8) (hr : meth.sig.returnType = (some .int)) (hlk : meth.locks = false) {out : Int32 × q_M}  : ∀ n : Nat, ∀ (v1 : Int32) (v2 : Int32) (σ : q_M) (H : Heap) (locs : List Loc) (ls : Array Slot), q_H (gX D cI cJ cS ad adK adV) (q_A (gX D cI cJ cS ad adK adV) s.heap.size) s σ H locs → lv_has ls 3 [(0, .ref (ad 0)), (1, .int v1), (2, .int v2)] → fX8_alike_c4  n v1 v2 σ = some out → W p l e { frames := 2, cells := 0, slots := 0, locals := 48 } s m args below meth c H locs 0 0 (MQ below (q_Ri (gX D cI cJ cS ad adK adV) (q_A (gX D cI cJ cS ad adK adV) s.heap.size) out) args s 0 0 (q_A (gX D cI cJ cS ad adK adV) s.heap.size)) (F0 m 4 ls []) := by
  obtain ⟨hx, hb, hml, hown, hts⟩ := id C0
  intro n
  induction n with
  | zero =>
    intro v1 v2 σ H locs ls  hw hl h
    cases (show (none : Option (Int32 × q_M)) = some out from h)
  | succ n hrec4 =>
    intro v1 v2 σ H locs ls  hw hl h
    replace h : fX8_alike_c4b  (fX8_alike_c4  n) v1 v2 σ = some out := h
    unfold fX8_alike_c4b at h
    refine lv_iload_n hx hb dX8_alike_4 rfl (lv_at hl 2 rfl) ?_
    refine lv_iconst (v := (3 : Int32)) hx hb dX8_alike_5 (by decide) ?_
    refine lv_icmp_ge (tgt := 50) hx hb dX8_alike_6 (by decide) (fun c1 => ?_) (fun c1 => ?_)
    · replace h := q_t h c1
      refine lv_iload_n hx hb dX8_alike_50 rfl (lv_at hl 1 rfl) ?_
      exact q_iret h C0 hr hlk hw dX8_alike_51
    · replace h := q_f h c1
      refine lv_aload_n hx hb dX8_alike_9 rfl (lv_at hl 0 rfl) ?_
      refine gt_X8_0 C0 hw xF_0 iX8_alike_X8 (by decide +kernel) dX8_alike_10 ?_
      refine gt_X2_0 C0 hw xF_1 iX8_alike_X2 (by decide +kernel) dX8_alike_13 ?_
      refine lv_aload_n hx hb dX8_alike_16 rfl (lv_at hl 0 rfl) ?_
      refine gt_X8_0 C0 hw xF_0 iX8_alike_X8 (by decide +kernel) dX8_alike_17 ?_
      refine gt_X2_1 C0 hw xF_1 iX8_alike_X2 (by decide +kernel) dX8_alike_20 ?_
      refine lv_iload_n hx hb dX8_alike_23 rfl (lv_at hl 2 rfl) ?_
      obtain ⟨o2, hco2, h⟩ := q_bind h
      refine q_calll hw (va_runV (As := [.long (σ.2 1 1), .int v2]) (rest := []) C0 (kX0_mirrored xF_2 hco2 _) (cwV 2 hts gX8_alike_X0_mirrored rfl rfl rfl eX0_mirrored ⟨(Nat.le_of_ble_eq_true rfl), (Nat.le_of_ble_eq_true rfl)⟩) ⟨q_blind, q_recv hw (xN_2 xF_2) (xE_2 xF_2) rfl, q_pre hw⟩ rfl rfl hl.1 rfl (lv_room (Nat.le_of_ble_eq_true rfl)) dX8_alike_24 ⟨Nat.zero_le _, Nat.zero_le _⟩) (fun H locs hw => ?_)
      refine lv_aload_n hx hb dX8_alike_27 rfl (lv_at hl 0 rfl) ?_
      refine gt_X8_0 C0 hw xF_0 iX8_alike_X8 (by decide +kernel) dX8_alike_28 ?_
      refine gt_X2_1 C0 hw xF_1 iX8_alike_X2 (by decide +kernel) dX8_alike_31 ?_
      refine q_lcmp_ne (tgt := 44) C0 dX8_alike_34 dX8_alike_35 (by decide) (fun c3 => ?_) (fun c3 => ?_)
      · replace h := q_f h c3
        refine lv_iinc (v := (v2 + (1 : Int32))) (lv' := [(2, .int (v2 + (1 : Int32))), (0, .ref (ad 0)), (1, .int v1)]) hx hb dX8_alike_44 hl (k := 2) rfl rfl (by decide) rfl (fun ls hl => ?_)
        refine lv_goto (tgt := 4) hx hb dX8_alike_47 (by decide) ?_
        exact hrec4 v1 (v2 + (1 : Int32)) o2.2 _ _ _ hw (lv_sub hl [1, 2, 0] rfl) h
      · replace h := q_t h c3
        refine lv_iload_n hx hb dX8_alike_38 rfl (lv_at hl 1 rfl) ?_
        refine lv_iconst (v := (1 : Int32)) hx hb dX8_alike_39 (by decide) ?_
        refine lv_iload_n hx hb dX8_alike_40 rfl (lv_at hl 2 rfl) ?_
        refine q_ishl (v := (q_sl (1 : Int32) v2)) C0 dX8_alike_41 rfl ?_
        refine lv_ior hx hb dX8_alike_42 ?_
        refine lv_topi (fun x4 e_x4 => ?_)
        replace h := q_let_at e_x4 h
        refine lv_istore_n (lv' := [(1, .int x4), (0, .ref (ad 0)), (2, .int v2)]) hx hb dX8_alike_43 rfl hl (by decide) rfl (fun ls hl => ?_)
        refine lv_iinc (v := (v2 + (1 : Int32))) (lv' := [(2, .int (v2 + (1 : Int32))), (1, .int x4), (0, .ref (ad 0))]) hx hb dX8_alike_44 hl (k := 2) rfl rfl (by decide) rfl (fun ls hl => ?_)
        refine lv_goto (tgt := 4) hx hb dX8_alike_47 (by decide) ?_
        exact hrec4 x4 (v2 + (1 : Int32)) o2.2 _ _ _ hw (lv_sub hl [2, 1, 0] rfl) h
set_option maxHeartbeats 4000000 in
set_option maxRecDepth 100000 in
theorem kX8_alike   {σ : q_M} {out : Int32 × q_M} (h : fX8_alike  σ = some out) : q_Mi l (gX D cI cJ cS ad adK adV) yX8_alike wsX8_alike { frames := 2, cells := 0, slots := 0, locals := 48 } [.ref (ad 0)] σ out := by
  refine q_Mi_of (cc := cX8_alike) (maxL := 3) (ret := (some .int)) (by decide) rfl (Nat.le_of_ble_eq_true rfl) ?_
  intro p e s m below meth c ls C0 hr hlk hl hw
  obtain ⟨hx, hb, hml, hown, hts⟩ := id C0
  replace hl : lv_has ls 3 [(0, .ref (ad 0))] := hl
  unfold fX8_alike at h
  refine lv_iconst (v := (0 : Int32)) hx hb dX8_alike_0 (by decide) ?_
  refine lv_istore_n (lv' := [(1, .int (0 : Int32)), (0, .ref (ad 0))]) hx hb dX8_alike_1 rfl hl (by decide) rfl (fun ls hl => ?_)
  refine lv_iconst (v := (0 : Int32)) hx hb dX8_alike_2 (by decide) ?_
  refine lv_istore_n (lv' := [(2, .int (0 : Int32)), (1, .int (0 : Int32)), (0, .ref (ad 0))]) hx hb dX8_alike_3 rfl hl (by decide) rfl (fun ls hl => ?_)
  exact tX8_alike_c4 C0 hr hlk q_FU (0 : Int32) (0 : Int32) σ _ _ _ hw (lv_sub hl [2, 1, 0] rfl) h
-- X8_mirror mirror(I)I
theorem iX8_mirror_X8 : ∀ w ∈ wsX80, w ∈ wsX8_mirror := by decide +kernel
theorem eX2_mirrorAll : yX2_mirrorAll.cls = RX2 ∧ yX2_mirrorAll.cls ≠ "java/lang/invoke/MethodHandle" ∧ yX2_mirrorAll.cls ≠ "java/lang/invoke/VarHandle" ∧ (parseMethodDescriptor yX2_mirrorAll.desc).map (fun d => d.parameters.length) = some 1 := by decide +kernel
set_option maxHeartbeats 4000000 in
set_option maxRecDepth 100000 in
theorem kX8_mirror {p1 : Int32}  {σ : q_M} {out : Int32 × q_M} (h : fX8_mirror p1 σ = some out) : q_Mi l (gX D cI cJ cS ad adK adV) yX8_mirror wsX8_mirror { frames := 3, cells := 0, slots := 0, locals := 70 } [.ref (ad 0), .int p1] σ out := by
  refine q_Mi_of (cc := cX8_mirror) (maxL := 2) (ret := (some .int)) (by decide) rfl (Nat.le_of_ble_eq_true rfl) ?_
  intro p e s m below meth c ls C0 hr hlk hl hw
  obtain ⟨hx, hb, hml, hown, hts⟩ := id C0
  replace hl : lv_has ls 2 [(0, .ref (ad 0)), (1, .int p1)] := hl
  unfold fX8_mirror at h
  refine lv_iload_n hx hb dX8_mirror_0 rfl (lv_at hl 1 rfl) ?_
  obtain ⟨o1, hco1, h⟩ := q_bind h
  refine q_calli hw (va_runS (As := [.int p1]) (rest := []) C0 (kX8_isAxis hco1 _) (va_cwS 1 hts gX8_mirror_X8_isAxis rfl rfl rfl eX8_isAxis ⟨(Nat.le_of_ble_eq_true rfl), (Nat.le_of_ble_eq_true rfl)⟩) ⟨q_blind, q_pre hw⟩ rfl rfl hl.1 rfl (lv_room (Nat.le_of_ble_eq_true rfl)) dX8_mirror_1 ⟨Nat.zero_le _, Nat.zero_le _⟩) (fun H locs hw => ?_)
  refine lv_if_ne (tgt := 14) hx hb dX8_mirror_4 (by decide) (fun c2 => ?_) (fun c2 => ?_)
  · replace h := q_f h c2
    refine lv_aload_n hx hb dX8_mirror_14 rfl (lv_at hl 0 rfl) ?_
    refine gt_X8_0 C0 hw xF_0 iX8_mirror_X8 (by decide +kernel) dX8_mirror_15 ?_
    refine lv_iload_n hx hb dX8_mirror_18 rfl (lv_at hl 1 rfl) ?_
    obtain ⟨o3, hco3, h⟩ := q_bind h
    refine q_callv hw (va_runV (As := [.int p1]) (rest := []) C0 (kX2_mirrorAll xF_1 hco3 _) (cwV 1 hts gX8_mirror_X2_mirrorAll rfl rfl rfl eX2_mirrorAll ⟨(Nat.le_of_ble_eq_true rfl), (Nat.le_of_ble_eq_true rfl)⟩) ⟨q_blind, q_recv hw (xN_1 xF_1) (xE_1 xF_1) rfl, q_pre hw⟩ rfl rfl hl.1 rfl (lv_room (Nat.le_of_ble_eq_true rfl)) dX8_mirror_19 ⟨Nat.zero_le _, Nat.zero_le _⟩) (fun H locs hw => ?_)
    refine lv_iconst (v := (1 : Int32)) hx hb dX8_mirror_22 (by decide) ?_
    exact q_iret h C0 hr hlk hw dX8_mirror_23
  · replace h := q_t h c2
    refine lv_aload_n hx hb dX8_mirror_7 rfl (lv_at hl 0 rfl) ?_
    refine lv_bipush (v := (-2 : Int32)) hx hb dX8_mirror_8 (by decide) ?_
    obtain ⟨o4, hco4, h⟩ := q_bind h
    refine q_calli hw (va_runV (As := [.int (-2 : Int32)]) (rest := []) C0 (kX8_refuse hco4 _) (cwV 1 hts gX8_mirror_X8_refuse rfl rfl rfl eX8_refuse ⟨(Nat.le_of_ble_eq_true rfl), (Nat.le_of_ble_eq_true rfl)⟩) ⟨q_blind, q_recv hw (xN_0 xF_0) (xE_0 xF_0) rfl, q_pre hw⟩ rfl rfl hl.1 rfl (lv_room (Nat.le_of_ble_eq_true rfl)) dX8_mirror_10 ⟨Nat.zero_le _, Nat.zero_le _⟩) (fun H locs hw => ?_)
    exact q_iret h C0 hr hlk hw dX8_mirror_13
-- X8_turn turn(I)I
theorem iX8_turn_X8 : ∀ w ∈ wsX80, w ∈ wsX8_turn := by decide +kernel
theorem eX2_turnAll : yX2_turnAll.cls = RX2 ∧ yX2_turnAll.cls ≠ "java/lang/invoke/MethodHandle" ∧ yX2_turnAll.cls ≠ "java/lang/invoke/VarHandle" ∧ (parseMethodDescriptor yX2_turnAll.desc).map (fun d => d.parameters.length) = some 1 := by decide +kernel
set_option maxHeartbeats 4000000 in
set_option maxRecDepth 100000 in
theorem kX8_turn {p1 : Int32}  {σ : q_M} {out : Int32 × q_M} (h : fX8_turn p1 σ = some out) : q_Mi l (gX D cI cJ cS ad adK adV) yX8_turn wsX8_turn { frames := 3, cells := 0, slots := 0, locals := 75 } [.ref (ad 0), .int p1] σ out := by
  refine q_Mi_of (cc := cX8_turn) (maxL := 2) (ret := (some .int)) (by decide) rfl (Nat.le_of_ble_eq_true rfl) ?_
  intro p e s m below meth c ls C0 hr hlk hl hw
  obtain ⟨hx, hb, hml, hown, hts⟩ := id C0
  replace hl : lv_has ls 2 [(0, .ref (ad 0)), (1, .int p1)] := hl
  unfold fX8_turn at h
  refine lv_iload_n hx hb dX8_turn_0 rfl (lv_at hl 1 rfl) ?_
  obtain ⟨o1, hco1, h⟩ := q_bind h
  refine q_calli hw (va_runS (As := [.int p1]) (rest := []) C0 (kX8_isAxis hco1 _) (va_cwS 1 hts gX8_turn_X8_isAxis rfl rfl rfl eX8_isAxis ⟨(Nat.le_of_ble_eq_true rfl), (Nat.le_of_ble_eq_true rfl)⟩) ⟨q_blind, q_pre hw⟩ rfl rfl hl.1 rfl (lv_room (Nat.le_of_ble_eq_true rfl)) dX8_turn_1 ⟨Nat.zero_le _, Nat.zero_le _⟩) (fun H locs hw => ?_)
  refine lv_if_ne (tgt := 14) hx hb dX8_turn_4 (by decide) (fun c2 => ?_) (fun c2 => ?_)
  · replace h := q_f h c2
    refine lv_aload_n hx hb dX8_turn_14 rfl (lv_at hl 0 rfl) ?_
    refine gt_X8_0 C0 hw xF_0 iX8_turn_X8 (by decide +kernel) dX8_turn_15 ?_
    refine lv_iload_n hx hb dX8_turn_18 rfl (lv_at hl 1 rfl) ?_
    obtain ⟨o3, hco3, h⟩ := q_bind h
    refine q_callv hw (va_runV (As := [.int p1]) (rest := []) C0 (kX2_turnAll xF_1 hco3 _) (cwV 1 hts gX8_turn_X2_turnAll rfl rfl rfl eX2_turnAll ⟨(Nat.le_of_ble_eq_true rfl), (Nat.le_of_ble_eq_true rfl)⟩) ⟨q_blind, q_recv hw (xN_1 xF_1) (xE_1 xF_1) rfl, q_pre hw⟩ rfl rfl hl.1 rfl (lv_room (Nat.le_of_ble_eq_true rfl)) dX8_turn_19 ⟨Nat.zero_le _, Nat.zero_le _⟩) (fun H locs hw => ?_)
    refine lv_iconst (v := (1 : Int32)) hx hb dX8_turn_22 (by decide) ?_
    exact q_iret h C0 hr hlk hw dX8_turn_23
  · replace h := q_t h c2
    refine lv_aload_n hx hb dX8_turn_7 rfl (lv_at hl 0 rfl) ?_
    refine lv_bipush (v := (-2 : Int32)) hx hb dX8_turn_8 (by decide) ?_
    obtain ⟨o4, hco4, h⟩ := q_bind h
    refine q_calli hw (va_runV (As := [.int (-2 : Int32)]) (rest := []) C0 (kX8_refuse hco4 _) (cwV 1 hts gX8_turn_X8_refuse rfl rfl rfl eX8_refuse ⟨(Nat.le_of_ble_eq_true rfl), (Nat.le_of_ble_eq_true rfl)⟩) ⟨q_blind, q_recv hw (xN_0 xF_0) (xE_0 xF_0) rfl, q_pre hw⟩ rfl rfl hl.1 rfl (lv_room (Nat.le_of_ble_eq_true rfl)) dX8_turn_10 ⟨Nat.zero_le _, Nat.zero_le _⟩) (fun H locs hw => ?_)
    exact q_iret h C0 hr hlk hw dX8_turn_13
-- X8_thin thin(II)I
theorem iX8_thin_X2 : ∀ w ∈ wsX20, w ∈ wsX8_thin := by decide +kernel
theorem iX8_thin_X8 : ∀ w ∈ wsX80, w ∈ wsX8_thin := by decide +kernel
theorem eX0_thinnestRow : yX0_thinnestRow.cls = RX0 ∧ yX0_thinnestRow.cls ≠ "java/lang/invoke/MethodHandle" ∧ yX0_thinnestRow.cls ≠ "java/lang/invoke/VarHandle" ∧ (parseMethodDescriptor yX0_thinnestRow.desc).map (fun d => d.parameters.length) = some 2 := by decide +kernel
set_option maxHeartbeats 4000000 in
set_option maxRecDepth 100000 in
theorem kX8_thin {p1 : Int32} {p2 : Int32}  {σ : q_M} {out : Int32 × q_M} (h : fX8_thin p1 p2 σ = some out) : q_Mi l (gX D cI cJ cS ad adK adV) yX8_thin wsX8_thin { frames := 2, cells := 0, slots := 0, locals := 55 } [.ref (ad 0), .int p1, .int p2] σ out := by
  refine q_Mi_of (cc := cX8_thin) (maxL := 3) (ret := (some .int)) (by decide) rfl (Nat.le_of_ble_eq_true rfl) ?_
  intro p e s m below meth c ls C0 hr hlk hl hw
  obtain ⟨hx, hb, hml, hown, hts⟩ := id C0
  replace hl : lv_has ls 3 [(0, .ref (ad 0)), (1, .int p1), (2, .int p2)] := hl
  unfold fX8_thin at h
  refine lv_aload_n hx hb dX8_thin_0 rfl (lv_at hl 0 rfl) ?_
  refine lv_iload_n hx hb dX8_thin_1 rfl (lv_at hl 1 rfl) ?_
  obtain ⟨o1, hco1, h⟩ := q_bind h
  refine q_calli hw (va_runV (As := [.int p1]) (rest := []) C0 (kX8_isPiece hco1 _) (cwV 1 hts gX8_thin_X8_isPiece rfl rfl rfl eX8_isPiece ⟨(Nat.le_of_ble_eq_true rfl), (Nat.le_of_ble_eq_true rfl)⟩) ⟨q_blind, q_recv hw (xN_0 xF_0) (xE_0 xF_0) rfl, q_pre hw⟩ rfl rfl hl.1 rfl (lv_room (Nat.le_of_ble_eq_true rfl)) dX8_thin_2 ⟨Nat.zero_le _, Nat.zero_le _⟩) (fun H locs hw => ?_)
  refine lv_if_eq (tgt := 15) hx hb dX8_thin_5 (by decide) (fun c2 => ?_) (fun c2 => ?_)
  · replace h := q_t h c2
    refine lv_aload_n hx hb dX8_thin_15 rfl (lv_at hl 0 rfl) ?_
    refine lv_bipush (v := (-2 : Int32)) hx hb dX8_thin_16 (by decide) ?_
    obtain ⟨o3, hco3, h⟩ := q_bind h
    refine q_calli hw (va_runV (As := [.int (-2 : Int32)]) (rest := []) C0 (kX8_refuse hco3 _) (cwV 1 hts gX8_thin_X8_refuse rfl rfl rfl eX8_refuse ⟨(Nat.le_of_ble_eq_true rfl), (Nat.le_of_ble_eq_true rfl)⟩) ⟨q_blind, q_recv hw (xN_0 xF_0) (xE_0 xF_0) rfl, q_pre hw⟩ rfl rfl hl.1 rfl (lv_room (Nat.le_of_ble_eq_true rfl)) dX8_thin_18 ⟨Nat.zero_le _, Nat.zero_le _⟩) (fun H locs hw => ?_)
    exact q_iret h C0 hr hlk hw dX8_thin_21
  · replace h := q_f h c2
    refine lv_iload_n hx hb dX8_thin_8 rfl (lv_at hl 2 rfl) ?_
    obtain ⟨o4, hco4, h⟩ := q_bind h
    refine q_calli hw (va_runS (As := [.int p2]) (rest := []) C0 (kX8_isAxis hco4 _) (va_cwS 1 hts gX8_thin_X8_isAxis rfl rfl rfl eX8_isAxis ⟨(Nat.le_of_ble_eq_true rfl), (Nat.le_of_ble_eq_true rfl)⟩) ⟨q_blind, q_pre hw⟩ rfl rfl hl.1 rfl (lv_room (Nat.le_of_ble_eq_true rfl)) dX8_thin_9 ⟨Nat.zero_le _, Nat.zero_le _⟩) (fun H locs hw => ?_)
    refine lv_if_ne (tgt := 22) hx hb dX8_thin_12 (by decide) (fun c5 => ?_) (fun c5 => ?_)
    · replace h := q_f h c5
      refine lv_aload_n hx hb dX8_thin_22 rfl (lv_at hl 0 rfl) ?_
      refine gt_X8_0 C0 hw xF_0 iX8_thin_X8 (by decide +kernel) dX8_thin_23 ?_
      refine gt_X2_0 C0 hw xF_1 iX8_thin_X2 (by decide +kernel) dX8_thin_26 ?_
      refine lv_aload_n hx hb dX8_thin_29 rfl (lv_at hl 0 rfl) ?_
      refine gt_X8_0 C0 hw xF_0 iX8_thin_X8 (by decide +kernel) dX8_thin_30 ?_
      refine gt_X2_6 C0 hw xF_1 iX8_thin_X2 (by decide +kernel) dX8_thin_33 ?_
      refine lv_iload_n hx hb dX8_thin_36 rfl (lv_at hl 1 rfl) ?_
      obtain ⟨b6, h⟩ := q_if h
      refine q_lald (t0 := 1) C0 hw (xN_6 xF_6) (xE_6 xF_6) rfl b6 dX8_thin_37 ?_
      refine lv_iload_n hx hb dX8_thin_38 rfl (lv_at hl 2 rfl) ?_
      obtain ⟨o7, hco7, h⟩ := q_bind h
      refine q_calli hw (va_runV (As := [.long (o4.2.2 6 p1.toNatClampNeg), .int p2]) (rest := []) C0 (kX0_thinnestRow xF_2 hco7 _) (cwV 2 hts gX8_thin_X0_thinnestRow rfl rfl rfl eX0_thinnestRow ⟨(Nat.le_of_ble_eq_true rfl), (Nat.le_of_ble_eq_true rfl)⟩) ⟨q_blind, q_recv hw (xN_2 xF_2) (xE_2 xF_2) rfl, q_pre hw⟩ rfl rfl hl.1 rfl (lv_room (Nat.le_of_ble_eq_true rfl)) dX8_thin_39 ⟨Nat.zero_le _, Nat.zero_le _⟩) (fun H locs hw => ?_)
      exact q_iret h C0 hr hlk hw dX8_thin_42
    · replace h := q_t h c5
      refine lv_aload_n hx hb dX8_thin_15 rfl (lv_at hl 0 rfl) ?_
      refine lv_bipush (v := (-2 : Int32)) hx hb dX8_thin_16 (by decide) ?_
      obtain ⟨o8, hco8, h⟩ := q_bind h
      refine q_calli hw (va_runV (As := [.int (-2 : Int32)]) (rest := []) C0 (kX8_refuse hco8 _) (cwV 1 hts gX8_thin_X8_refuse rfl rfl rfl eX8_refuse ⟨(Nat.le_of_ble_eq_true rfl), (Nat.le_of_ble_eq_true rfl)⟩) ⟨q_blind, q_recv hw (xN_0 xF_0) (xE_0 xF_0) rfl, q_pre hw⟩ rfl rfl hl.1 rfl (lv_room (Nat.le_of_ble_eq_true rfl)) dX8_thin_18 ⟨Nat.zero_le _, Nat.zero_le _⟩) (fun H locs hw => ?_)
      exact q_iret h C0 hr hlk hw dX8_thin_21
-- X8_spare spare(I)J
theorem iX8_spare_X8 : ∀ w ∈ wsX80, w ∈ wsX8_spare := by decide +kernel
theorem eX2_spareBeside : yX2_spareBeside.cls = RX2 ∧ yX2_spareBeside.cls ≠ "java/lang/invoke/MethodHandle" ∧ yX2_spareBeside.cls ≠ "java/lang/invoke/VarHandle" ∧ (parseMethodDescriptor yX2_spareBeside.desc).map (fun d => d.parameters.length) = some 1 := by decide +kernel
set_option maxHeartbeats 4000000 in
set_option maxRecDepth 100000 in
theorem kX8_spare {p1 : Int32}  {σ : q_M} {out : Int64 × q_M} (h : fX8_spare p1 σ = some out) : q_Ml l (gX D cI cJ cS ad adK adV) yX8_spare wsX8_spare { frames := 3, cells := 0, slots := 0, locals := 72 } [.ref (ad 0), .int p1] σ out := by
  refine q_Ml_of (cc := cX8_spare) (maxL := 2) (ret := (some .long)) (by decide) rfl (Nat.le_of_ble_eq_true rfl) ?_
  intro p e s m below meth c ls C0 hr hlk hl hw
  obtain ⟨hx, hb, hml, hown, hts⟩ := id C0
  replace hl : lv_has ls 2 [(0, .ref (ad 0)), (1, .int p1)] := hl
  unfold fX8_spare at h
  refine lv_aload_n hx hb dX8_spare_0 rfl (lv_at hl 0 rfl) ?_
  refine lv_iload_n hx hb dX8_spare_1 rfl (lv_at hl 1 rfl) ?_
  obtain ⟨o1, hco1, h⟩ := q_bind h
  refine q_calli hw (va_runV (As := [.int p1]) (rest := []) C0 (kX8_isPiece hco1 _) (cwV 1 hts gX8_spare_X8_isPiece rfl rfl rfl eX8_isPiece ⟨(Nat.le_of_ble_eq_true rfl), (Nat.le_of_ble_eq_true rfl)⟩) ⟨q_blind, q_recv hw (xN_0 xF_0) (xE_0 xF_0) rfl, q_pre hw⟩ rfl rfl hl.1 rfl (lv_room (Nat.le_of_ble_eq_true rfl)) dX8_spare_2 ⟨Nat.zero_le _, Nat.zero_le _⟩) (fun H locs hw => ?_)
  refine lv_if_eq (tgt := 19) hx hb dX8_spare_5 (by decide) (fun c2 => ?_) (fun c2 => ?_)
  · replace h := q_t h c2
    refine lv_lconst (v := (0 : Int64)) hx hb dX8_spare_19 (by decide) ?_
    exact q_lret h C0 hr hlk hw dX8_spare_20
  · replace h := q_f h c2
    refine lv_aload_n hx hb dX8_spare_8 rfl (lv_at hl 0 rfl) ?_
    refine gt_X8_0 C0 hw xF_0 iX8_spare_X8 (by decide +kernel) dX8_spare_9 ?_
    refine lv_iload_n hx hb dX8_spare_12 rfl (lv_at hl 1 rfl) ?_
    obtain ⟨o3, hco3, h⟩ := q_bind h
    refine q_calll hw (va_runV (As := [.int p1]) (rest := []) C0 (kX2_spareBeside xF_1 hco3 _) (cwV 1 hts gX8_spare_X2_spareBeside rfl rfl rfl eX2_spareBeside ⟨(Nat.le_of_ble_eq_true rfl), (Nat.le_of_ble_eq_true rfl)⟩) ⟨q_blind, q_recv hw (xN_1 xF_1) (xE_1 xF_1) rfl, q_pre hw⟩ rfl rfl hl.1 rfl (lv_room (Nat.le_of_ble_eq_true rfl)) dX8_spare_13 ⟨Nat.zero_le _, Nat.zero_le _⟩) (fun H locs hw => ?_)
    refine lv_goto (tgt := 20) hx hb dX8_spare_16 (by decide) ?_
    exact q_lret h C0 hr hlk hw dX8_spare_20
-- X8_grow grow(I)I
theorem iX8_grow_X2 : ∀ w ∈ wsX20, w ∈ wsX8_grow := by decide +kernel
theorem iX8_grow_X8 : ∀ w ∈ wsX80, w ∈ wsX8_grow := by decide +kernel
set_option maxHeartbeats 4000000 in
set_option maxRecDepth 100000 in
theorem kX8_grow {p1 : Int32}  {σ : q_M} {out : Int32 × q_M} (h : fX8_grow p1 σ = some out) : q_Mi l (gX D cI cJ cS ad adK adV) yX8_grow wsX8_grow { frames := 3, cells := 0, slots := 0, locals := 72 } [.ref (ad 0), .int p1] σ out := by
  refine q_Mi_of (cc := cX8_grow) (maxL := 5) (ret := (some .int)) (by decide) rfl (Nat.le_of_ble_eq_true rfl) ?_
  intro p e s m below meth c ls C0 hr hlk hl hw
  obtain ⟨hx, hb, hml, hown, hts⟩ := id C0
  replace hl : lv_has ls 5 [(0, .ref (ad 0)), (1, .int p1)] := hl
  unfold fX8_grow at h
  refine lv_aload_n hx hb dX8_grow_0 rfl (lv_at hl 0 rfl) ?_
  refine lv_iload_n hx hb dX8_grow_1 rfl (lv_at hl 1 rfl) ?_
  obtain ⟨o1, hco1, h⟩ := q_bind h
  refine q_calli hw (va_runV (As := [.int p1]) (rest := []) C0 (kX8_onPieceRefusal hco1 _) (cwV 1 hts gX8_grow_X8_onPieceRefusal rfl rfl rfl eX8_onPieceRefusal ⟨(Nat.le_of_ble_eq_true rfl), (Nat.le_of_ble_eq_true rfl)⟩) ⟨q_blind, q_recv hw (xN_0 xF_0) (xE_0 xF_0) rfl, q_pre hw⟩ rfl rfl hl.1 rfl (lv_room (Nat.le_of_ble_eq_true rfl)) dX8_grow_2 ⟨Nat.zero_le _, Nat.zero_le _⟩) (fun H locs hw => ?_)
  refine lv_istore_n (lv' := [(2, .int o1.1), (0, .ref (ad 0)), (1, .int p1)]) hx hb dX8_grow_5 rfl hl (by decide) rfl (fun ls hl => ?_)
  refine lv_iload_n hx hb dX8_grow_6 rfl (lv_at hl 0 rfl) ?_
  refine lv_if_eq (tgt := 16) hx hb dX8_grow_7 (by decide) (fun c2 => ?_) (fun c2 => ?_)
  · replace h := q_t h c2
    refine lv_aload_n hx hb dX8_grow_16 rfl (lv_at hl 1 rfl) ?_
    refine gt_X8_0 C0 hw xF_0 iX8_grow_X8 (by decide +kernel) dX8_grow_17 ?_
    refine lv_iload_n hx hb dX8_grow_20 rfl (lv_at hl 2 rfl) ?_
    obtain ⟨o3, hco3, h⟩ := q_bind h
    refine q_calll hw (va_runV (As := [.int p1]) (rest := []) C0 (kX2_spareBeside xF_1 hco3 _) (cwV 1 hts gX8_grow_X2_spareBeside rfl rfl rfl eX2_spareBeside ⟨(Nat.le_of_ble_eq_true rfl), (Nat.le_of_ble_eq_true rfl)⟩) ⟨q_blind, q_recv hw (xN_1 xF_1) (xE_1 xF_1) rfl, q_pre hw⟩ rfl rfl hl.1 rfl (lv_room (Nat.le_of_ble_eq_true rfl)) dX8_grow_21 ⟨Nat.zero_le _, Nat.zero_le _⟩) (fun H locs hw => ?_)
    refine lv_lstore_n (lv' := [(3, .long o3.1), (2, .int o1.1), (0, .ref (ad 0)), (1, .int p1)]) hx hb dX8_grow_24 rfl hl (by decide) rfl (fun ls hl => ?_)
    refine lv_aload_n hx hb dX8_grow_25 rfl (lv_at hl 2 rfl) ?_
    refine gt_X8_0 C0 hw xF_0 iX8_grow_X8 (by decide +kernel) dX8_grow_26 ?_
    refine gt_X2_6 C0 hw xF_1 iX8_grow_X2 (by decide +kernel) dX8_grow_29 ?_
    refine lv_iload_n hx hb dX8_grow_32 rfl (lv_at hl 3 rfl) ?_
    refine lv_dup2_11 hx hb dX8_grow_33 rfl rfl ?_
    obtain ⟨b4, h⟩ := q_if h
    refine q_lald (t0 := 1) C0 hw (xN_6 xF_6) (xE_6 xF_6) rfl b4 dX8_grow_34 ?_
    refine lv_lload_n hx hb dX8_grow_35 rfl (lv_at hl 0 rfl) ?_
    refine lv_lor hx hb dX8_grow_36 ?_
    obtain ⟨b5, h⟩ := q_if h
    refine q_last (t0 := 1) C0 hw (xN_6 xF_6) (xE_6 xF_6) rfl b5 dX8_grow_37 (fun σ6 H locs e_σ6 hw => ?_)
    replace h := q_let_at e_σ6 h
    refine lv_lload_n hx hb dX8_grow_38 rfl (lv_at hl 0 rfl) ?_
    obtain ⟨o7, hco7, h⟩ := q_bind h
    refine q_calli hw (va_runS (As := [.long o3.1]) (rest := []) C0 (kJ13_bitCount_95d88 hco7 _) (va_cwS 1 hts gX8_grow_J13_bitCount_95d88 rfl rfl rfl eJ13_bitCount_95d88 ⟨(Nat.le_of_ble_eq_true rfl), (Nat.le_of_ble_eq_true rfl)⟩) ⟨q_blind, q_pre hw⟩ rfl rfl hl.1 rfl (lv_room (Nat.le_of_ble_eq_true rfl)) dX8_grow_39 ⟨Nat.zero_le _, Nat.zero_le _⟩) (fun H locs hw => ?_)
    exact q_iret h C0 hr hlk hw dX8_grow_42
  · replace h := q_f h c2
    refine lv_aload_n hx hb dX8_grow_10 rfl (lv_at hl 1 rfl) ?_
    refine lv_iload_n hx hb dX8_grow_11 rfl (lv_at hl 0 rfl) ?_
    obtain ⟨o8, hco8, h⟩ := q_bind h
    refine q_calli hw (va_runV (As := [.int o1.1]) (rest := []) C0 (kX8_refuse hco8 _) (cwV 1 hts gX8_grow_X8_refuse rfl rfl rfl eX8_refuse ⟨(Nat.le_of_ble_eq_true rfl), (Nat.le_of_ble_eq_true rfl)⟩) ⟨q_blind, q_recv hw (xN_0 xF_0) (xE_0 xF_0) rfl, q_pre hw⟩ rfl rfl hl.1 rfl (lv_room (Nat.le_of_ble_eq_true rfl)) dX8_grow_12 ⟨Nat.zero_le _, Nat.zero_le _⟩) (fun H locs hw => ?_)
    exact q_iret h C0 hr hlk hw dX8_grow_15
-- X8_faces faces(I)I
theorem iX8_faces_X8 : ∀ w ∈ wsX80, w ∈ wsX8_faces := by decide +kernel
theorem eX2_countFaces : yX2_countFaces.cls = RX2 ∧ yX2_countFaces.cls ≠ "java/lang/invoke/MethodHandle" ∧ yX2_countFaces.cls ≠ "java/lang/invoke/VarHandle" ∧ (parseMethodDescriptor yX2_countFaces.desc).map (fun d => d.parameters.length) = some 1 := by decide +kernel
set_option maxHeartbeats 4000000 in
set_option maxRecDepth 100000 in
theorem kX8_faces {p1 : Int32}  {σ : q_M} {out : Int32 × q_M} (h : fX8_faces p1 σ = some out) : q_Mi l (gX D cI cJ cS ad adK adV) yX8_faces wsX8_faces { frames := 2, cells := 0, slots := 0, locals := 49 } [.ref (ad 0), .int p1] σ out := by
  refine q_Mi_of (cc := cX8_faces) (maxL := 2) (ret := (some .int)) (by decide) rfl (Nat.le_of_ble_eq_true rfl) ?_
  intro p e s m below meth c ls C0 hr hlk hl hw
  obtain ⟨hx, hb, hml, hown, hts⟩ := id C0
  replace hl : lv_has ls 2 [(0, .ref (ad 0)), (1, .int p1)] := hl
  unfold fX8_faces at h
  refine lv_aload_n hx hb dX8_faces_0 rfl (lv_at hl 0 rfl) ?_
  refine lv_iload_n hx hb dX8_faces_1 rfl (lv_at hl 1 rfl) ?_
  obtain ⟨o1, hco1, h⟩ := q_bind h
  refine q_calli hw (va_runV (As := [.int p1]) (rest := []) C0 (kX8_isPiece hco1 _) (cwV 1 hts gX8_faces_X8_isPiece rfl rfl rfl eX8_isPiece ⟨(Nat.le_of_ble_eq_true rfl), (Nat.le_of_ble_eq_true rfl)⟩) ⟨q_blind, q_recv hw (xN_0 xF_0) (xE_0 xF_0) rfl, q_pre hw⟩ rfl rfl hl.1 rfl (lv_room (Nat.le_of_ble_eq_true rfl)) dX8_faces_2 ⟨Nat.zero_le _, Nat.zero_le _⟩) (fun H locs hw => ?_)
  refine lv_if_eq (tgt := 19) hx hb dX8_faces_5 (by decide) (fun c2 => ?_) (fun c2 => ?_)
  · replace h := q_t h c2
    refine lv_aload_n hx hb dX8_faces_19 rfl (lv_at hl 0 rfl) ?_
    refine lv_bipush (v := (-2 : Int32)) hx hb dX8_faces_20 (by decide) ?_
    obtain ⟨o3, hco3, h⟩ := q_bind h
    refine q_calli hw (va_runV (As := [.int (-2 : Int32)]) (rest := []) C0 (kX8_refuse hco3 _) (cwV 1 hts gX8_faces_X8_refuse rfl rfl rfl eX8_refuse ⟨(Nat.le_of_ble_eq_true rfl), (Nat.le_of_ble_eq_true rfl)⟩) ⟨q_blind, q_recv hw (xN_0 xF_0) (xE_0 xF_0) rfl, q_pre hw⟩ rfl rfl hl.1 rfl (lv_room (Nat.le_of_ble_eq_true rfl)) dX8_faces_22 ⟨Nat.zero_le _, Nat.zero_le _⟩) (fun H locs hw => ?_)
    exact q_iret h C0 hr hlk hw dX8_faces_25
  · replace h := q_f h c2
    refine lv_aload_n hx hb dX8_faces_8 rfl (lv_at hl 0 rfl) ?_
    refine gt_X8_0 C0 hw xF_0 iX8_faces_X8 (by decide +kernel) dX8_faces_9 ?_
    refine lv_iload_n hx hb dX8_faces_12 rfl (lv_at hl 1 rfl) ?_
    obtain ⟨o4, hco4, h⟩ := q_bind h
    refine q_calli hw (va_runV (As := [.int p1]) (rest := []) C0 (kX2_countFaces xF_1 hco4 _) (cwV 1 hts gX8_faces_X2_countFaces rfl rfl rfl eX2_countFaces ⟨(Nat.le_of_ble_eq_true rfl), (Nat.le_of_ble_eq_true rfl)⟩) ⟨q_blind, q_recv hw (xN_1 xF_1) (xE_1 xF_1) rfl, q_pre hw⟩ rfl rfl hl.1 rfl (lv_room (Nat.le_of_ble_eq_true rfl)) dX8_faces_13 ⟨Nat.zero_le _, Nat.zero_le _⟩) (fun H locs hw => ?_)
    refine lv_goto (tgt := 25) hx hb dX8_faces_16 (by decide) ?_
    exact q_iret h C0 hr hlk hw dX8_faces_25
-- X8_casts casts()I
theorem iX8_casts_X2 : ∀ w ∈ wsX20, w ∈ wsX8_casts := by decide +kernel
theorem iX8_casts_X8 : ∀ w ∈ wsX80, w ∈ wsX8_casts := by decide +kernel
set_option maxHeartbeats 4000000 in
set_option maxRecDepth 100000 in
theorem tX8_casts_c4   (C0 : CallFix p m c cX8_casts 3 s args wsX8_casts RX8) (hr : meth.sig.returnType = (some .int)) (hlk : meth.locks = false) {out : Int32 × q_M}  : ∀ n : Nat, ∀ (v1 : Int32) (v2 : Int32) (σ : q_M) (H : Heap) (locs : List Loc) (ls : Array Slot), q_H (gX D cI cJ cS ad adK adV) (q_A (gX D cI cJ cS ad adK adV) s.heap.size) s σ H locs → lv_has ls 3 [(0, .ref (ad 0)), (1, .int v1), (2, .int v2)] → fX8_casts_c4  n v1 v2 σ = some out → W p l e { frames := 2, cells := 0, slots := 0, locals := 49 } s m args below meth c H locs 0 0 (MQ below (q_Ri (gX D cI cJ cS ad adK adV) (q_A (gX D cI cJ cS ad adK adV) s.heap.size) out) args s 0 0 (q_A (gX D cI cJ cS ad adK adV) s.heap.size)) (F0 m 4 ls []) := by
  obtain ⟨hx, hb, hml, hown, hts⟩ := id C0
  intro n
  induction n with
  | zero =>
    intro v1 v2 σ H locs ls  hw hl h
    cases (show (none : Option (Int32 × q_M)) = some out from h)
  | succ n hrec4 =>
    intro v1 v2 σ H locs ls  hw hl h
    replace h : fX8_casts_c4b  (fX8_casts_c4  n) v1 v2 σ = some out := h
    unfold fX8_casts_c4b at h
    refine lv_iload_n hx hb dX8_casts_4 rfl (lv_at hl 2 rfl) ?_
    refine lv_aload_n hx hb dX8_casts_5 rfl (lv_at hl 0 rfl) ?_
    refine gt_X8_0 C0 hw xF_0 iX8_casts_X8 (by decide +kernel) dX8_casts_6 ?_
    refine gt_X2_2 C0 hw xF_1 iX8_casts_X2 (by decide +kernel) dX8_casts_9 ?_
    refine lv_icmp_ge (tgt := 45) hx hb dX8_casts_12 (by decide) (fun c1 => ?_) (fun c1 => ?_)
    · replace h := q_t h c1
      refine lv_iload_n hx hb dX8_casts_45 rfl (lv_at hl 1 rfl) ?_
      refine lv_if_ne (tgt := 55) hx hb dX8_casts_46 (by decide) (fun c2 => ?_) (fun c2 => ?_)
      · replace h := q_f h c2
        refine lv_aload_n hx hb dX8_casts_55 rfl (lv_at hl 0 rfl) ?_
        refine gt_X8_0 C0 hw xF_0 iX8_casts_X8 (by decide +kernel) dX8_casts_56 ?_
        refine gt_X2_5 C0 hw xF_1 iX8_casts_X2 (by decide +kernel) dX8_casts_59 ?_
        refine lv_iload_n hx hb dX8_casts_62 rfl (lv_at hl 1 rfl) ?_
        obtain ⟨z3, h⟩ := q_if h
        refine lv_idiv hx hb dX8_casts_63 z3 ?_
        exact q_iret h C0 hr hlk hw dX8_casts_64
      · replace h := q_t h c2
        refine lv_sipush (v := (999 : Int32)) hx hb dX8_casts_49 (by decide) ?_
        refine lv_goto (tgt := 64) hx hb dX8_casts_52 (by decide) ?_
        exact q_iret h C0 hr hlk hw dX8_casts_64
    · replace h := q_f h c1
      refine lv_aload_n hx hb dX8_casts_15 rfl (lv_at hl 0 rfl) ?_
      refine gt_X8_0 C0 hw xF_0 iX8_casts_X8 (by decide +kernel) dX8_casts_16 ?_
      refine lv_iload_n hx hb dX8_casts_19 rfl (lv_at hl 2 rfl) ?_
      obtain ⟨o4, hco4, h⟩ := q_bind h
      refine q_calli hw (va_runV (As := [.int v2]) (rest := []) C0 (kX2_isOff xF_1 hco4 _) (cwV 1 hts gX8_casts_X2_isOff rfl rfl rfl eX2_isOff ⟨(Nat.le_of_ble_eq_true rfl), (Nat.le_of_ble_eq_true rfl)⟩) ⟨q_blind, q_recv hw (xN_1 xF_1) (xE_1 xF_1) rfl, q_pre hw⟩ rfl rfl hl.1 rfl (lv_room (Nat.le_of_ble_eq_true rfl)) dX8_casts_20 ⟨Nat.zero_le _, Nat.zero_le _⟩) (fun H locs hw => ?_)
      refine lv_if_ne (tgt := 39) hx hb dX8_casts_23 (by decide) (fun c5 => ?_) (fun c5 => ?_)
      · replace h := q_f h c5
        refine lv_iinc (v := (v2 + (1 : Int32))) (lv' := [(2, .int (v2 + (1 : Int32))), (0, .ref (ad 0)), (1, .int v1)]) hx hb dX8_casts_39 hl (k := 2) rfl rfl (by decide) rfl (fun ls hl => ?_)
        refine lv_goto (tgt := 4) hx hb dX8_casts_42 (by decide) ?_
        exact hrec4 v1 (v2 + (1 : Int32)) o4.2 _ _ _ hw (lv_sub hl [1, 2, 0] rfl) h
      · replace h := q_t h c5
        refine lv_iload_n hx hb dX8_casts_26 rfl (lv_at hl 1 rfl) ?_
        refine lv_aload_n hx hb dX8_casts_27 rfl (lv_at hl 0 rfl) ?_
        refine gt_X8_0 C0 hw xF_0 iX8_casts_X8 (by decide +kernel) dX8_casts_28 ?_
        refine lv_iload_n hx hb dX8_casts_31 rfl (lv_at hl 2 rfl) ?_
        obtain ⟨o6, hco6, h⟩ := q_bind h
        refine q_calli hw (va_runV (As := [.int v2]) (rest := [.int v1]) C0 (kX2_countFaces xF_1 hco6 _) (cwV 1 hts gX8_casts_X2_countFaces rfl rfl rfl eX2_countFaces ⟨(Nat.le_of_ble_eq_true rfl), (Nat.le_of_ble_eq_true rfl)⟩) ⟨q_blind, q_recv hw (xN_1 xF_1) (xE_1 xF_1) rfl, q_pre hw⟩ rfl rfl hl.1 rfl (lv_room (Nat.le_of_ble_eq_true rfl)) dX8_casts_32 ⟨Nat.zero_le _, Nat.zero_le _⟩) (fun H locs hw => ?_)
        refine va_mmax hx hb (hml.trans hl.1.symm) hown (hts (.methodLink RX8 342 Lib.Math.max.name) (by decide +kernel)) (hts (.static Lib.Math.max.name) (by decide +kernel)) (hts (.initialized "java/lang/Math") (by decide +kernel)) (hts (.code Lib.Math.max.name Lib.Math.max.code 2 (some .int)) (by decide +kernel)) (Nat.le_of_ble_eq_true rfl) (Nat.le_of_ble_eq_true rfl) (Nat.le_of_ble_eq_true rfl) (Nat.le_of_ble_eq_true rfl) dX8_casts_35 ?_
        refine lv_topi (fun x7 e_x7 => ?_)
        replace h := q_let_at e_x7 h
        refine lv_istore_n (lv' := [(1, .int x7), (0, .ref (ad 0)), (2, .int v2)]) hx hb dX8_casts_38 rfl hl (by decide) rfl (fun ls hl => ?_)
        refine lv_iinc (v := (v2 + (1 : Int32))) (lv' := [(2, .int (v2 + (1 : Int32))), (1, .int x7), (0, .ref (ad 0))]) hx hb dX8_casts_39 hl (k := 2) rfl rfl (by decide) rfl (fun ls hl => ?_)
        refine lv_goto (tgt := 4) hx hb dX8_casts_42 (by decide) ?_
        exact hrec4 x7 (v2 + (1 : Int32)) o6.2 _ _ _ hw (lv_sub hl [2, 1, 0] rfl) h
set_option maxHeartbeats 4000000 in
set_option maxRecDepth 100000 in
theorem kX8_casts   {σ : q_M} {out : Int32 × q_M} (h : fX8_casts  σ = some out) : q_Mi l (gX D cI cJ cS ad adK adV) yX8_casts wsX8_casts { frames := 2, cells := 0, slots := 0, locals := 49 } [.ref (ad 0)] σ out := by
  refine q_Mi_of (cc := cX8_casts) (maxL := 3) (ret := (some .int)) (by decide) rfl (Nat.le_of_ble_eq_true rfl) ?_
  intro p e s m below meth c ls C0 hr hlk hl hw
  obtain ⟨hx, hb, hml, hown, hts⟩ := id C0
  replace hl : lv_has ls 3 [(0, .ref (ad 0))] := hl
  unfold fX8_casts at h
  refine lv_iconst (v := (0 : Int32)) hx hb dX8_casts_0 (by decide) ?_
  refine lv_istore_n (lv' := [(1, .int (0 : Int32)), (0, .ref (ad 0))]) hx hb dX8_casts_1 rfl hl (by decide) rfl (fun ls hl => ?_)
  refine lv_iconst (v := (0 : Int32)) hx hb dX8_casts_2 (by decide) ?_
  refine lv_istore_n (lv' := [(2, .int (0 : Int32)), (1, .int (0 : Int32)), (0, .ref (ad 0))]) hx hb dX8_casts_3 rfl hl (by decide) rfl (fun ls hl => ?_)
  exact tX8_casts_c4 C0 hr hlk q_FU (0 : Int32) (0 : Int32) σ _ _ _ hw (lv_sub hl [2, 1, 0] rfl) h
-- X8_step step()I
theorem iX8_step_X2 : ∀ w ∈ wsX20, w ∈ wsX8_step := by decide +kernel
theorem iX8_step_X8 : ∀ w ∈ wsX80, w ∈ wsX8_step := by decide +kernel
set_option maxHeartbeats 4000000 in
set_option maxRecDepth 100000 in
theorem kX8_step   {σ : q_M} {out : Int32 × q_M} (h : fX8_step  σ = some out) : q_Mi l (gX D cI cJ cS ad adK adV) yX8_step wsX8_step { frames := 5, cells := 0, slots := 0, locals := 125 } [.ref (ad 0)] σ out := by
  refine q_Mi_of (cc := cX8_step) (maxL := 2) (ret := (some .int)) (by decide) rfl (Nat.le_of_ble_eq_true rfl) ?_
  intro p e s m below meth c ls C0 hr hlk hl hw
  obtain ⟨hx, hb, hml, hown, hts⟩ := id C0
  replace hl : lv_has ls 2 [(0, .ref (ad 0))] := hl
  unfold fX8_step at h
  refine lv_aload_n hx hb dX8_step_0 rfl (lv_at hl 0 rfl) ?_
  refine lv_aload_n hx hb dX8_step_1 rfl (lv_at hl 0 rfl) ?_
  refine gt_X8_0 C0 hw xF_0 iX8_step_X8 (by decide +kernel) dX8_step_2 ?_
  refine gt_X2_3 C0 hw xF_1 iX8_step_X2 (by decide +kernel) dX8_step_5 ?_
  obtain ⟨o1, hco1, h⟩ := q_bind h
  refine q_calli hw (va_runV (As := [.int (σ.1 1 3)]) (rest := []) C0 (kX8_firstLoose hco1 _) (cwV 1 hts gX8_step_X8_firstLoose rfl rfl rfl eX8_firstLoose ⟨(Nat.le_of_ble_eq_true rfl), (Nat.le_of_ble_eq_true rfl)⟩) ⟨q_blind, q_recv hw (xN_0 xF_0) (xE_0 xF_0) rfl, q_pre hw⟩ rfl rfl hl.1 rfl (lv_room (Nat.le_of_ble_eq_true rfl)) dX8_step_8 ⟨Nat.zero_le _, Nat.zero_le _⟩) (fun H locs hw => ?_)
  refine lv_istore_n (lv' := [(1, .int o1.1), (0, .ref (ad 0))]) hx hb dX8_step_11 rfl hl (by decide) rfl (fun ls hl => ?_)
  refine lv_iload_n hx hb dX8_step_12 rfl (lv_at hl 0 rfl) ?_
  refine lv_iconst (v := (-1 : Int32)) hx hb dX8_step_13 (by decide) ?_
  refine lv_icmp_ne (tgt := 24) hx hb dX8_step_14 (by decide) (fun c2 => ?_) (fun c2 => ?_)
  · replace h := q_f h c2
    refine lv_aload_n hx hb dX8_step_24 rfl (lv_at hl 1 rfl) ?_
    refine gt_X8_0 C0 hw xF_0 iX8_step_X8 (by decide +kernel) dX8_step_25 ?_
    refine lv_dup hx hb dX8_step_28 rfl ?_
    refine gt_X2_3 C0 hw xF_1 iX8_step_X2 (by decide +kernel) dX8_step_29 ?_
    refine lv_iconst (v := (1 : Int32)) hx hb dX8_step_32 (by decide) ?_
    refine lv_iload_n hx hb dX8_step_33 rfl (lv_at hl 0 rfl) ?_
    refine q_ishl (v := (q_sl (1 : Int32) o1.1)) C0 dX8_step_34 rfl ?_
    refine lv_ior hx hb dX8_step_35 ?_
    refine pt_X2_3 C0 hw xF_1 iX8_step_X2 (by decide +kernel) dX8_step_36 (fun σ3 H locs e_σ3 hw => ?_)
    replace h := q_let_at e_σ3 h
    refine lv_iload_n hx hb dX8_step_39 rfl (lv_at hl 0 rfl) ?_
    exact q_iret h C0 hr hlk hw dX8_step_40
  · replace h := q_t h c2
    refine lv_aload_n hx hb dX8_step_17 rfl (lv_at hl 1 rfl) ?_
    refine lv_bipush (v := (-5 : Int32)) hx hb dX8_step_18 (by decide) ?_
    obtain ⟨o4, hco4, h⟩ := q_bind h
    refine q_calli hw (va_runV (As := [.int (-5 : Int32)]) (rest := []) C0 (kX8_refuse hco4 _) (cwV 1 hts gX8_step_X8_refuse rfl rfl rfl eX8_refuse ⟨(Nat.le_of_ble_eq_true rfl), (Nat.le_of_ble_eq_true rfl)⟩) ⟨q_blind, q_recv hw (xN_0 xF_0) (xE_0 xF_0) rfl, q_pre hw⟩ rfl rfl hl.1 rfl (lv_room (Nat.le_of_ble_eq_true rfl)) dX8_step_20 ⟨Nat.zero_le _, Nat.zero_le _⟩) (fun H locs hw => ?_)
    exact q_iret h C0 hr hlk hw dX8_step_23
-- X8_again again()I
theorem iX8_again_X2 : ∀ w ∈ wsX20, w ∈ wsX8_again := by decide +kernel
theorem iX8_again_X8 : ∀ w ∈ wsX80, w ∈ wsX8_again := by decide +kernel
set_option maxHeartbeats 4000000 in
set_option maxRecDepth 100000 in
theorem kX8_again   {σ : q_M} {out : Int32 × q_M} (h : fX8_again  σ = some out) : q_Mi l (gX D cI cJ cS ad adK adV) yX8_again wsX8_again { frames := 1, cells := 0, slots := 0, locals := 20 } [.ref (ad 0)] σ out := by
  refine q_Mi_of (cc := cX8_again) (maxL := 2) (ret := (some .int)) (by decide) rfl (Nat.le_of_ble_eq_true rfl) ?_
  intro p e s m below meth c ls C0 hr hlk hl hw
  obtain ⟨hx, hb, hml, hown, hts⟩ := id C0
  replace hl : lv_has ls 2 [(0, .ref (ad 0))] := hl
  unfold fX8_again at h
  refine lv_aload_n hx hb dX8_again_0 rfl (lv_at hl 0 rfl) ?_
  refine gt_X8_0 C0 hw xF_0 iX8_again_X8 (by decide +kernel) dX8_again_1 ?_
  refine gt_X2_3 C0 hw xF_1 iX8_again_X2 (by decide +kernel) dX8_again_4 ?_
  obtain ⟨o1, hco1, h⟩ := q_bind h
  refine q_calli hw (va_runS (As := [.int (σ.1 1 3)]) (rest := []) C0 (kJ6_bitCount_0f7a4 hco1 _) (va_cwS 1 hts gX8_again_J6_bitCount_0f7a4 rfl rfl rfl eJ6_bitCount_0f7a4 ⟨(Nat.le_of_ble_eq_true rfl), (Nat.le_of_ble_eq_true rfl)⟩) ⟨q_blind, q_pre hw⟩ rfl rfl hl.1 rfl (lv_room (Nat.le_of_ble_eq_true rfl)) dX8_again_7 ⟨Nat.zero_le _, Nat.zero_le _⟩) (fun H locs hw => ?_)
  refine lv_istore_n (lv' := [(1, .int o1.1), (0, .ref (ad 0))]) hx hb dX8_again_10 rfl hl (by decide) rfl (fun ls hl => ?_)
  refine lv_aload_n hx hb dX8_again_11 rfl (lv_at hl 1 rfl) ?_
  refine gt_X8_0 C0 hw xF_0 iX8_again_X8 (by decide +kernel) dX8_again_12 ?_
  refine lv_iconst (v := (0 : Int32)) hx hb dX8_again_15 (by decide) ?_
  refine pt_X2_3 C0 hw xF_1 iX8_again_X2 (by decide +kernel) dX8_again_16 (fun σ2 H locs e_σ2 hw => ?_)
  replace h := q_let_at e_σ2 h
  refine lv_iload_n hx hb dX8_again_19 rfl (lv_at hl 0 rfl) ?_
  exact q_iret h C0 hr hlk hw dX8_again_20
-- X8_image image()I
theorem iX8_image_X8 : ∀ w ∈ wsX80, w ∈ wsX8_image := by decide +kernel
set_option maxHeartbeats 4000000 in
set_option maxRecDepth 100000 in
theorem kX8_image   {σ : q_M} {out : Int32 × q_M} (h : fX8_image  σ = some out) : q_Mi l (gX D cI cJ cS ad adK adV) yX8_image wsX8_image { frames := 3, cells := 0, slots := 0, locals := 71 } [.ref (ad 0)] σ out := by
  refine q_Mi_of (cc := cX8_image) (maxL := 1) (ret := (some .int)) (by decide) rfl (Nat.le_of_ble_eq_true rfl) ?_
  intro p e s m below meth c ls C0 hr hlk hl hw
  obtain ⟨hx, hb, hml, hown, hts⟩ := id C0
  replace hl : lv_has ls 1 [(0, .ref (ad 0))] := hl
  unfold fX8_image at h
  refine lv_aload_n hx hb dX8_image_0 rfl (lv_at hl 0 rfl) ?_
  refine gt_X8_1 C0 hw xF_0 iX8_image_X8 (by decide +kernel) dX8_image_1 ?_
  refine lv_aload_n hx hb dX8_image_4 rfl (lv_at hl 0 rfl) ?_
  refine gt_X8_0 C0 hw xF_0 iX8_image_X8 (by decide +kernel) dX8_image_5 ?_
  obtain ⟨o1, hco1, h⟩ := q_bind h
  refine q_callv hw (va_runV (As := [.ref (ad 1)]) (rest := []) C0 (kX2_takeFrom xF_8 xF_1 hco1 _) (cwV 1 hts gX8_image_X2_takeFrom rfl rfl rfl eX2_takeFrom ⟨(Nat.le_of_ble_eq_true rfl), (Nat.le_of_ble_eq_true rfl)⟩) ⟨q_blind, q_recv hw (xN_1 xF_8) (xE_1 xF_8) rfl, q_pre hw⟩ rfl rfl hl.1 rfl (lv_room (Nat.le_of_ble_eq_true rfl)) dX8_image_8 ⟨Nat.zero_le _, Nat.zero_le _⟩) (fun H locs hw => ?_)
  refine lv_aload_n hx hb dX8_image_11 rfl (lv_at hl 0 rfl) ?_
  refine lv_iconst (v := (1 : Int32)) hx hb dX8_image_12 (by decide) ?_
  refine pt_X8_3 C0 hw xF_0 iX8_image_X8 (by decide +kernel) rfl rfl dX8_image_13 (fun σ2 H locs e_σ2 hw => ?_)
  replace h := q_let_at e_σ2 h
  refine lv_iconst (v := (1 : Int32)) hx hb dX8_image_16 (by decide) ?_
  exact q_iret h C0 hr hlk hw dX8_image_17
-- X8_back back()I
theorem iX8_back_X8 : ∀ w ∈ wsX80, w ∈ wsX8_back := by decide +kernel
set_option maxHeartbeats 4000000 in
set_option maxRecDepth 100000 in
theorem kX8_back   {σ : q_M} {out : Int32 × q_M} (h : fX8_back  σ = some out) : q_Mi l (gX D cI cJ cS ad adK adV) yX8_back wsX8_back { frames := 3, cells := 0, slots := 0, locals := 71 } [.ref (ad 0)] σ out := by
  refine q_Mi_of (cc := cX8_back) (maxL := 1) (ret := (some .int)) (by decide) rfl (Nat.le_of_ble_eq_true rfl) ?_
  intro p e s m below meth c ls C0 hr hlk hl hw
  obtain ⟨hx, hb, hml, hown, hts⟩ := id C0
  replace hl : lv_has ls 1 [(0, .ref (ad 0))] := hl
  unfold fX8_back at h
  refine lv_aload_n hx hb dX8_back_0 rfl (lv_at hl 0 rfl) ?_
  refine gt_X8_3 C0 hw xF_0 iX8_back_X8 (by decide +kernel) dX8_back_1 ?_
  refine lv_if_ne (tgt := 14) hx hb dX8_back_4 (by decide) (fun c1 => ?_) (fun c1 => ?_)
  · replace h := q_f h c1
    refine lv_aload_n hx hb dX8_back_14 rfl (lv_at hl 0 rfl) ?_
    refine gt_X8_0 C0 hw xF_0 iX8_back_X8 (by decide +kernel) dX8_back_15 ?_
    refine lv_aload_n hx hb dX8_back_18 rfl (lv_at hl 0 rfl) ?_
    refine gt_X8_1 C0 hw xF_0 iX8_back_X8 (by decide +kernel) dX8_back_19 ?_
    obtain ⟨o2, hco2, h⟩ := q_bind h
    refine q_callv hw (va_runV (As := [.ref (ad 8)]) (rest := []) C0 (kX2_takeFrom xF_1 xF_8 hco2 _) (cwV 1 hts gX8_back_X2_takeFrom rfl rfl rfl eX2_takeFrom ⟨(Nat.le_of_ble_eq_true rfl), (Nat.le_of_ble_eq_true rfl)⟩) ⟨q_blind, q_recv hw (xN_1 xF_1) (xE_1 xF_1) rfl, q_pre hw⟩ rfl rfl hl.1 rfl (lv_room (Nat.le_of_ble_eq_true rfl)) dX8_back_22 ⟨Nat.zero_le _, Nat.zero_le _⟩) (fun H locs hw => ?_)
    refine lv_iconst (v := (1 : Int32)) hx hb dX8_back_25 (by decide) ?_
    exact q_iret h C0 hr hlk hw dX8_back_26
  · replace h := q_t h c1
    refine lv_aload_n hx hb dX8_back_7 rfl (lv_at hl 0 rfl) ?_
    refine lv_bipush (v := (-5 : Int32)) hx hb dX8_back_8 (by decide) ?_
    obtain ⟨o3, hco3, h⟩ := q_bind h
    refine q_calli hw (va_runV (As := [.int (-5 : Int32)]) (rest := []) C0 (kX8_refuse hco3 _) (cwV 1 hts gX8_back_X8_refuse rfl rfl rfl eX8_refuse ⟨(Nat.le_of_ble_eq_true rfl), (Nat.le_of_ble_eq_true rfl)⟩) ⟨q_blind, q_recv hw (xN_0 xF_0) (xE_0 xF_0) rfl, q_pre hw⟩ rfl rfl hl.1 rfl (lv_room (Nat.le_of_ble_eq_true rfl)) dX8_back_10 ⟨Nat.zero_le _, Nat.zero_le _⟩) (fun H locs hw => ?_)
    exact q_iret h C0 hr hlk hw dX8_back_13
-- X8_countHeld countHeld()I
theorem iX8_countHeld_X6 : ∀ w ∈ wsX60, w ∈ wsX8_countHeld := by decide +kernel
theorem iX8_countHeld_X8 : ∀ w ∈ wsX80, w ∈ wsX8_countHeld := by decide +kernel
set_option maxHeartbeats 4000000 in
set_option maxRecDepth 100000 in
theorem tX8_countHeld_c4   (C0 : CallFix p m c cX8_countHeld 3 s args wsX8_countHeld RX8) (hr : meth.sig.returnType = (some .int)) (hlk : meth.locks = false) {out : Int32 × q_M}  : ∀ n : Nat, ∀ (v1 : Int32) (v2 : Int32) (σ : q_M) (H : Heap) (locs : List Loc) (ls : Array Slot), q_H (gX D cI cJ cS ad adK adV) (q_A (gX D cI cJ cS ad adK adV) s.heap.size) s σ H locs → lv_has ls 3 [(0, .ref (ad 0)), (1, .int v1), (2, .int v2)] → fX8_countHeld_c4  n v1 v2 σ = some out → W p l e { frames := 0, cells := 0, slots := 0, locals := 0 } s m args below meth c H locs 0 0 (MQ below (q_Ri (gX D cI cJ cS ad adK adV) (q_A (gX D cI cJ cS ad adK adV) s.heap.size) out) args s 0 0 (q_A (gX D cI cJ cS ad adK adV) s.heap.size)) (F0 m 4 ls []) := by
  obtain ⟨hx, hb, hml, hown, hts⟩ := id C0
  intro n
  induction n with
  | zero =>
    intro v1 v2 σ H locs ls  hw hl h
    cases (show (none : Option (Int32 × q_M)) = some out from h)
  | succ n hrec4 =>
    intro v1 v2 σ H locs ls  hw hl h
    replace h : fX8_countHeld_c4b  (fX8_countHeld_c4  n) v1 v2 σ = some out := h
    unfold fX8_countHeld_c4b at h
    refine lv_iload_n hx hb dX8_countHeld_4 rfl (lv_at hl 2 rfl) ?_
    refine lv_bipush (v := (8 : Int32)) hx hb dX8_countHeld_5 (by decide) ?_
    refine lv_icmp_ge (tgt := 32) hx hb dX8_countHeld_7 (by decide) (fun c1 => ?_) (fun c1 => ?_)
    · replace h := q_t h c1
      refine lv_iload_n hx hb dX8_countHeld_32 rfl (lv_at hl 1 rfl) ?_
      exact q_iret h C0 hr hlk hw dX8_countHeld_33
    · replace h := q_f h c1
      refine lv_aload_n hx hb dX8_countHeld_10 rfl (lv_at hl 0 rfl) ?_
      refine gt_X8_4 C0 hw xF_0 iX8_countHeld_X8 (by decide +kernel) dX8_countHeld_11 ?_
      refine lv_iload_n hx hb dX8_countHeld_14 rfl (lv_at hl 2 rfl) ?_
      obtain ⟨b2, h⟩ := q_if h
      refine q_aald (t0 := 2) C0 hw (xN_8 xF_22) (xE_8 xF_22) rfl b2 rfl dX8_countHeld_15 ?_
      refine gt_X6_0 C0 hw (xSh b2) iX8_countHeld_X6 (by decide +kernel) dX8_countHeld_16 ?_
      refine lv_iconst (v := (-1 : Int32)) hx hb dX8_countHeld_19 (by decide) ?_
      refine lv_icmp_eq (tgt := 26) hx hb dX8_countHeld_20 (by decide) (fun c3 => ?_) (fun c3 => ?_)
      · replace h := q_t h c3
        refine lv_iinc (v := (v2 + (1 : Int32))) (lv' := [(2, .int (v2 + (1 : Int32))), (0, .ref (ad 0)), (1, .int v1)]) hx hb dX8_countHeld_26 hl (k := 2) rfl rfl (by decide) rfl (fun ls hl => ?_)
        refine lv_goto (tgt := 4) hx hb dX8_countHeld_29 (by decide) ?_
        exact hrec4 v1 (v2 + (1 : Int32)) σ _ _ _ hw (lv_sub hl [1, 2, 0] rfl) h
      · replace h := q_f h c3
        refine lv_iinc (v := (v1 + (1 : Int32))) (lv' := [(1, .int (v1 + (1 : Int32))), (0, .ref (ad 0)), (2, .int v2)]) hx hb dX8_countHeld_23 hl (k := 1) rfl rfl (by decide) rfl (fun ls hl => ?_)
        refine lv_iinc (v := (v2 + (1 : Int32))) (lv' := [(2, .int (v2 + (1 : Int32))), (1, .int (v1 + (1 : Int32))), (0, .ref (ad 0))]) hx hb dX8_countHeld_26 hl (k := 2) rfl rfl (by decide) rfl (fun ls hl => ?_)
        refine lv_goto (tgt := 4) hx hb dX8_countHeld_29 (by decide) ?_
        exact hrec4 (v1 + (1 : Int32)) (v2 + (1 : Int32)) σ _ _ _ hw (lv_sub hl [2, 1, 0] rfl) h
set_option maxHeartbeats 4000000 in
set_option maxRecDepth 100000 in
theorem kX8_countHeld   {σ : q_M} {out : Int32 × q_M} (h : fX8_countHeld  σ = some out) : q_Mi l (gX D cI cJ cS ad adK adV) yX8_countHeld wsX8_countHeld { frames := 0, cells := 0, slots := 0, locals := 0 } [.ref (ad 0)] σ out := by
  refine q_Mi_of (cc := cX8_countHeld) (maxL := 3) (ret := (some .int)) (by decide) rfl (Nat.le_of_ble_eq_true rfl) ?_
  intro p e s m below meth c ls C0 hr hlk hl hw
  obtain ⟨hx, hb, hml, hown, hts⟩ := id C0
  replace hl : lv_has ls 3 [(0, .ref (ad 0))] := hl
  unfold fX8_countHeld at h
  refine lv_iconst (v := (0 : Int32)) hx hb dX8_countHeld_0 (by decide) ?_
  refine lv_istore_n (lv' := [(1, .int (0 : Int32)), (0, .ref (ad 0))]) hx hb dX8_countHeld_1 rfl hl (by decide) rfl (fun ls hl => ?_)
  refine lv_iconst (v := (0 : Int32)) hx hb dX8_countHeld_2 (by decide) ?_
  refine lv_istore_n (lv' := [(2, .int (0 : Int32)), (1, .int (0 : Int32)), (0, .ref (ad 0))]) hx hb dX8_countHeld_3 rfl hl (by decide) rfl (fun ls hl => ?_)
  exact tX8_countHeld_c4 C0 hr hlk q_FU (0 : Int32) (0 : Int32) σ _ _ _ hw (lv_sub hl [2, 1, 0] rfl) h
-- X8_status status(I)I
theorem iX8_status_X0 : ∀ w ∈ wsX00, w ∈ wsX8_status := by decide +kernel
theorem iX8_status_X2 : ∀ w ∈ wsX20, w ∈ wsX8_status := by decide +kernel
theorem iX8_status_X7 : ∀ w ∈ wsX70, w ∈ wsX8_status := by decide +kernel
theorem iX8_status_X8 : ∀ w ∈ wsX80, w ∈ wsX8_status := by decide +kernel
theorem eX8_countHeld : yX8_countHeld.cls = RX8 ∧ yX8_countHeld.cls ≠ "java/lang/invoke/MethodHandle" ∧ yX8_countHeld.cls ≠ "java/lang/invoke/VarHandle" ∧ (parseMethodDescriptor yX8_countHeld.desc).map (fun d => d.parameters.length) = some 0 := by decide +kernel
set_option maxHeartbeats 4000000 in
set_option maxRecDepth 100000 in
theorem kX8_status {p1 : Int32}  {σ : q_M} {out : Int32 × q_M} (h : fX8_status p1 σ = some out) : q_Mi l (gX D cI cJ cS ad adK adV) yX8_status wsX8_status { frames := 1, cells := 0, slots := 0, locals := 22 } [.ref (ad 0), .int p1] σ out := by
  refine q_Mi_of (cc := cX8_status) (maxL := 2) (ret := (some .int)) (by decide) rfl (Nat.le_of_ble_eq_true rfl) ?_
  intro p e s m below meth c ls C0 hr hlk hl hw
  obtain ⟨hx, hb, hml, hown, hts⟩ := id C0
  replace hl : lv_has ls 2 [(0, .ref (ad 0)), (1, .int p1)] := hl
  unfold fX8_status at h
  refine lv_iload_n hx hb dX8_status_0 rfl (lv_at hl 1 rfl) ?_
  by_cases c1 : p1 = (0 : Int32)
  · replace h := q_t h c1
    refine q_tabIn (off := 47) (tgt := 48) C0 c1 dX8_status_1 (by decide) (by decide) rfl (by decide) ?_
    refine lv_aload_n hx hb dX8_status_48 rfl (lv_at hl 0 rfl) ?_
    refine gt_X8_0 C0 hw xF_0 iX8_status_X8 (by decide +kernel) dX8_status_49 ?_
    refine gt_X2_0 C0 hw xF_1 iX8_status_X2 (by decide +kernel) dX8_status_52 ?_
    refine gt_X0_0 C0 hw xF_2 iX8_status_X0 (by decide +kernel) dX8_status_55 ?_
    exact q_iret h C0 hr hlk hw dX8_status_58
  · replace h := q_f h c1
    by_cases c2 : p1 = (1 : Int32)
    · replace h := q_t h c2
      refine q_tabIn (off := 58) (tgt := 59) C0 c2 dX8_status_1 (by decide) (by decide) rfl (by decide) ?_
      refine lv_aload_n hx hb dX8_status_59 rfl (lv_at hl 0 rfl) ?_
      refine gt_X8_0 C0 hw xF_0 iX8_status_X8 (by decide +kernel) dX8_status_60 ?_
      refine gt_X2_1 C0 hw xF_1 iX8_status_X2 (by decide +kernel) dX8_status_63 ?_
      obtain ⟨o3, hco3, h⟩ := q_bind h
      refine q_calli hw (va_runS (As := [.long (σ.2 1 1)]) (rest := []) C0 (kJ13_bitCount_95d88 hco3 _) (va_cwS 1 hts gX8_status_J13_bitCount_95d88 rfl rfl rfl eJ13_bitCount_95d88 ⟨(Nat.le_of_ble_eq_true rfl), (Nat.le_of_ble_eq_true rfl)⟩) ⟨q_blind, q_pre hw⟩ rfl rfl hl.1 rfl (lv_room (Nat.le_of_ble_eq_true rfl)) dX8_status_66 ⟨Nat.zero_le _, Nat.zero_le _⟩) (fun H locs hw => ?_)
      exact q_iret h C0 hr hlk hw dX8_status_69
    · replace h := q_f h c2
      by_cases c4 : p1 = (2 : Int32)
      · replace h := q_t h c4
        refine q_tabIn (off := 69) (tgt := 70) C0 c4 dX8_status_1 (by decide) (by decide) rfl (by decide) ?_
        refine lv_aload_n hx hb dX8_status_70 rfl (lv_at hl 0 rfl) ?_
        refine gt_X8_0 C0 hw xF_0 iX8_status_X8 (by decide +kernel) dX8_status_71 ?_
        refine gt_X2_2 C0 hw xF_1 iX8_status_X2 (by decide +kernel) dX8_status_74 ?_
        exact q_iret h C0 hr hlk hw dX8_status_77
      · replace h := q_f h c4
        by_cases c5 : p1 = (3 : Int32)
        · replace h := q_t h c5
          refine q_tabIn (off := 77) (tgt := 78) C0 c5 dX8_status_1 (by decide) (by decide) rfl (by decide) ?_
          refine lv_aload_n hx hb dX8_status_78 rfl (lv_at hl 0 rfl) ?_
          refine gt_X8_0 C0 hw xF_0 iX8_status_X8 (by decide +kernel) dX8_status_79 ?_
          refine gt_X2_3 C0 hw xF_1 iX8_status_X2 (by decide +kernel) dX8_status_82 ?_
          obtain ⟨o6, hco6, h⟩ := q_bind h
          refine q_calli hw (va_runS (As := [.int (σ.1 1 3)]) (rest := []) C0 (kJ6_bitCount_0f7a4 hco6 _) (va_cwS 1 hts gX8_status_J6_bitCount_0f7a4 rfl rfl rfl eJ6_bitCount_0f7a4 ⟨(Nat.le_of_ble_eq_true rfl), (Nat.le_of_ble_eq_true rfl)⟩) ⟨q_blind, q_pre hw⟩ rfl rfl hl.1 rfl (lv_room (Nat.le_of_ble_eq_true rfl)) dX8_status_85 ⟨Nat.zero_le _, Nat.zero_le _⟩) (fun H locs hw => ?_)
          exact q_iret h C0 hr hlk hw dX8_status_88
        · replace h := q_f h c5
          by_cases c7 : p1 = (4 : Int32)
          · replace h := q_t h c7
            refine q_tabIn (off := 88) (tgt := 89) C0 c7 dX8_status_1 (by decide) (by decide) rfl (by decide) ?_
            refine lv_aload_n hx hb dX8_status_89 rfl (lv_at hl 0 rfl) ?_
            refine gt_X8_0 C0 hw xF_0 iX8_status_X8 (by decide +kernel) dX8_status_90 ?_
            refine gt_X2_4 C0 hw xF_1 iX8_status_X2 (by decide +kernel) dX8_status_93 ?_
            exact q_iret h C0 hr hlk hw dX8_status_96
          · replace h := q_f h c7
            by_cases c8 : p1 = (5 : Int32)
            · replace h := q_t h c8
              refine q_tabIn (off := 96) (tgt := 97) C0 c8 dX8_status_1 (by decide) (by decide) rfl (by decide) ?_
              refine lv_aload_n hx hb dX8_status_97 rfl (lv_at hl 0 rfl) ?_
              refine gt_X8_0 C0 hw xF_0 iX8_status_X8 (by decide +kernel) dX8_status_98 ?_
              refine gt_X2_5 C0 hw xF_1 iX8_status_X2 (by decide +kernel) dX8_status_101 ?_
              exact q_iret h C0 hr hlk hw dX8_status_104
            · replace h := q_f h c8
              by_cases c9 : p1 = (6 : Int32)
              · replace h := q_t h c9
                refine q_tabIn (off := 104) (tgt := 105) C0 c9 dX8_status_1 (by decide) (by decide) rfl (by decide) ?_
                refine lv_aload_n hx hb dX8_status_105 rfl (lv_at hl 0 rfl) ?_
                refine gt_X8_5 C0 hw xF_0 iX8_status_X8 (by decide +kernel) dX8_status_106 ?_
                refine gt_X7_0 C0 hw xF_23 iX8_status_X7 (by decide +kernel) dX8_status_109 ?_
                exact q_iret h C0 hr hlk hw dX8_status_112
              · replace h := q_f h c9
                by_cases c10 : p1 = (7 : Int32)
                · replace h := q_t h c10
                  refine q_tabIn (off := 112) (tgt := 113) C0 c10 dX8_status_1 (by decide) (by decide) rfl (by decide) ?_
                  refine lv_aload_n hx hb dX8_status_113 rfl (lv_at hl 0 rfl) ?_
                  obtain ⟨o11, hco11, h⟩ := q_bind h
                  refine q_calli hw (va_runV (As := []) (rest := []) C0 (kX8_countHeld hco11 _) (cwV 0 hts gX8_status_X8_countHeld rfl rfl rfl eX8_countHeld ⟨(Nat.le_of_ble_eq_true rfl), (Nat.le_of_ble_eq_true rfl)⟩) ⟨q_blind, q_recv hw (xN_0 xF_0) (xE_0 xF_0) rfl, q_pre hw⟩ rfl rfl hl.1 rfl (lv_room (Nat.le_of_ble_eq_true rfl)) dX8_status_114 ⟨Nat.zero_le _, Nat.zero_le _⟩) (fun H locs hw => ?_)
                  exact q_iret h C0 hr hlk hw dX8_status_117
                · replace h := q_f h c10
                  have n_c1 := q_neI (n := 0) c1 (by decide)
                  have n_c2 := q_neI (n := 1) c2 (by decide)
                  have n_c4 := q_neI (n := 2) c4 (by decide)
                  have n_c5 := q_neI (n := 3) c5 (by decide)
                  have n_c7 := q_neI (n := 4) c7 (by decide)
                  have n_c8 := q_neI (n := 5) c8 (by decide)
                  have n_c9 := q_neI (n := 6) c9 (by decide)
                  have n_c10 := q_neI (n := 7) c10 (by decide)
                  refine lv_tableOut (tgt := 118) hx hb dX8_status_1 (by omega) (by decide) ?_
                  refine lv_iload_n hx hb dX8_status_118 rfl (lv_at hl 1 rfl) ?_
                  refine lv_bipush (v := (12 : Int32)) hx hb dX8_status_119 (by decide) ?_
                  refine lv_icmp_lt (tgt := 142) hx hb dX8_status_121 (by decide) (fun c12 => ?_) (fun c12 => ?_)
                  · replace h := q_t h c12
                    refine lv_iconst (v := (-1 : Int32)) hx hb dX8_status_142 (by decide) ?_
                    exact q_iret h C0 hr hlk hw dX8_status_143
                  · replace h := q_f h c12
                    refine lv_iload_n hx hb dX8_status_124 rfl (lv_at hl 1 rfl) ?_
                    refine lv_bipush (v := (17 : Int32)) hx hb dX8_status_125 (by decide) ?_
                    refine lv_icmp_ge (tgt := 142) hx hb dX8_status_127 (by decide) (fun c13 => ?_) (fun c13 => ?_)
                    · replace h := q_t h c13
                      refine lv_iconst (v := (-1 : Int32)) hx hb dX8_status_142 (by decide) ?_
                      exact q_iret h C0 hr hlk hw dX8_status_143
                    · replace h := q_f h c13
                      refine lv_aload_n hx hb dX8_status_130 rfl (lv_at hl 0 rfl) ?_
                      refine gt_X8_7 C0 hw xF_0 iX8_status_X8 (by decide +kernel) dX8_status_131 ?_
                      refine lv_iload_n hx hb dX8_status_134 rfl (lv_at hl 1 rfl) ?_
                      refine lv_bipush (v := (12 : Int32)) hx hb dX8_status_135 (by decide) ?_
                      refine lv_isub hx hb dX8_status_137 ?_
                      obtain ⟨b14, h⟩ := q_if h
                      refine q_iald (t0 := 0) C0 hw (xN_13 xF_28) (xE_13 xF_28) rfl b14 dX8_status_138 ?_
                      refine lv_goto (tgt := 143) hx hb dX8_status_139 (by decide) ?_
                      exact q_iret h C0 hr hlk hw dX8_status_143
end
