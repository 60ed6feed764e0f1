section
variable {l : Launch} {D : va_G} {cI cJ cS : ClassId} {adK adV : Nat → Nat}
theorem iX0_init_X0 : ∀ w ∈ wsX00, w ∈ wsX0_init := by decide +kernel
def oB (D : va_G) (cI cJ cS : ClassId) (adK adV : Nat → Nat) (σ : q_M) (h0 : Nat) (ad : Nat → Nat) : va_W := q_ws (gB D cI cJ cS (fun k => if k = 0 then h0 else ad k) adK adV) σ
theorem eX0_become_ : yX0_become.cls = RX0 ∧ yX0_become.cls ≠ "java/lang/invoke/MethodHandle" ∧ yX0_become.cls ≠ "java/lang/invoke/VarHandle" ∧ (parseMethodDescriptor yX0_become.desc).map (fun d => d.parameters.length) = some 1 := by decide +kernel
set_option maxHeartbeats 8000000 in
set_option maxRecDepth 100000 in
theorem kX0_init {σB : q_M} (hB : fX0_become 0 3 q_0 = some σB) : c_M l D (tyX_ cI cJ cS) adK adV yX0_init wsX0_init { frames := 2, cells := 3, slots := 21, locals := 50 } (fun _ => True) (.inr (0, [.int 0, .int 0, .long 0, .null, .null, .null])) (oB D cI cJ cS adK adV σB) 3 21 := by
  refine c_M_of (cc := cX0_init) (maxL := 1) (by decide) rfl rfl (by decide) ?_
  intro h0 p e s m below meth c ls C0 hr hlk hnm hl hX hw
  obtain ⟨hx, hb, hml, hown, hts⟩ := id C0
  refine lv_aload_n hx hb dX0_init_0 rfl (lv_at hl 0 rfl) ?_
  refine W.objInit hx hb hown (hts (.methodLink RX0 3 objectInit) (by decide +kernel)) (hts (.instanceMethod objectInit) (by decide +kernel)) (hts (.code objectInit ⟨#[0xb1]⟩ 1 none) (by decide +kernel)) rfl (by rw [hml]; exact hl.1) rfl dX0_init_1 (Nat.le_of_ble_eq_true rfl) (Nat.le_of_ble_eq_true rfl) ?_
  refine W.eq (g2 := F0 m 4 ls []) rfl ?_
  refine lv_aload_n hx hb dX0_init_4 rfl (lv_at hl 0 rfl) ?_
  refine lv_iconst (v := (3 : Int32)) hx hb dX0_init_5 (by decide) ?_
  refine c_newi (t0 := 0) (N' := 3) C0 hw rfl (by decide +kernel) (by decide) (by decide) (by decide) (Nat.le_of_ble_eq_true rfl) (Nat.le_of_ble_eq_true rfl) dX0_init_6 (fun q1 H hw => ?_)
  replace hw : c_H D (tyX_ cI cJ cS) adK adV (c_A h0 s.heap.size) s ((h0, .inr (0, [.int 0, .int 0, .long 0, .null, .null, .null])) :: ([(q1, .inl (cI, 3, .inl (fun _ => 0)))])) _ _ := hw
  refine c_putF (k := 0) (j := 3) (ty := (.array .int)) C0 hnm hw rfl rfl iX0_init_X0 tyX0 tyX0_ok nmX0 (by decide) (by decide +kernel) rfl rfl rfl (by decide +kernel) rfl rfl (Nat.le_of_ble_eq_true rfl) dX0_init_8 (fun H locs hw => ?_)
  replace hw : c_H D (tyX_ cI cJ cS) adK adV (c_A h0 s.heap.size) s ((h0, .inr (0, [.int 0, .int 0, .long 0, .ref q1, .null, .null])) :: ([(q1, .inl (cI, 3, .inl (fun _ => 0)))])) _ _ := hw
  refine lv_aload_n hx hb dX0_init_11 rfl (lv_at hl 0 rfl) ?_
  refine lv_bipush (v := (12 : Int32)) hx hb dX0_init_12 (by decide) ?_
  refine c_newl (t0 := 1) (N' := 12) C0 hw rfl (by decide +kernel) (by decide) (by decide) (by decide) (Nat.le_of_ble_eq_true rfl) (Nat.le_of_ble_eq_true rfl) dX0_init_14 (fun q2 H hw => ?_)
  replace hw : c_H D (tyX_ cI cJ cS) adK adV (c_A h0 s.heap.size) s ((h0, .inr (0, [.int 0, .int 0, .long 0, .ref q1, .null, .null])) :: ([(q1, .inl (cI, 3, .inl (fun _ => 0)))] ++ [(q2, .inl (cJ, 12, .inr (.inl (fun _ => 0))))])) _ _ := hw
  refine c_putF (k := 0) (j := 4) (ty := (.array .long)) C0 hnm hw rfl rfl iX0_init_X0 tyX0 tyX0_ok nmX0 (by decide) (by decide +kernel) rfl rfl rfl (by decide +kernel) rfl rfl (Nat.le_of_ble_eq_true rfl) dX0_init_16 (fun H locs hw => ?_)
  replace hw : c_H D (tyX_ cI cJ cS) adK adV (c_A h0 s.heap.size) s ((h0, .inr (0, [.int 0, .int 0, .long 0, .ref q1, .ref q2, .null])) :: ([(q1, .inl (cI, 3, .inl (fun _ => 0)))] ++ [(q2, .inl (cJ, 12, .inr (.inl (fun _ => 0))))])) _ _ := hw
  refine lv_aload_n hx hb dX0_init_19 rfl (lv_at hl 0 rfl) ?_
  refine lv_bipush (v := (6 : Int32)) hx hb dX0_init_20 (by decide) ?_
  refine c_newl (t0 := 1) (N' := 6) C0 hw rfl (by decide +kernel) (by decide) (by decide) (by decide) (Nat.le_of_ble_eq_true rfl) (Nat.le_of_ble_eq_true rfl) dX0_init_22 (fun q3 H hw => ?_)
  replace hw : c_H D (tyX_ cI cJ cS) adK adV (c_A h0 s.heap.size) s ((h0, .inr (0, [.int 0, .int 0, .long 0, .ref q1, .ref q2, .null])) :: ([(q1, .inl (cI, 3, .inl (fun _ => 0)))] ++ [(q2, .inl (cJ, 12, .inr (.inl (fun _ => 0))))] ++ [(q3, .inl (cJ, 6, .inr (.inl (fun _ => 0))))])) _ _ := hw
  refine c_putF (k := 0) (j := 5) (ty := (.array .long)) C0 hnm hw rfl rfl iX0_init_X0 tyX0 tyX0_ok nmX0 (by decide) (by decide +kernel) rfl rfl rfl (by decide +kernel) rfl rfl (Nat.le_of_ble_eq_true rfl) dX0_init_24 (fun H locs hw => ?_)
  replace hw : c_H D (tyX_ cI cJ cS) adK adV (c_A h0 s.heap.size) s ((h0, .inr (0, [.int 0, .int 0, .long 0, .ref q1, .ref q2, .ref q3])) :: ([(q1, .inl (cI, 3, .inl (fun _ => 0)))] ++ [(q2, .inl (cJ, 12, .inr (.inl (fun _ => 0))))] ++ [(q3, .inl (cJ, 6, .inr (.inl (fun _ => 0))))])) _ _ := hw
  refine lv_aload_n hx hb dX0_init_27 rfl (lv_at hl 0 rfl) ?_
  refine lv_iconst (v := (3 : Int32)) hx hb dX0_init_28 (by decide) ?_
  obtain ⟨ad, had⟩ : ∃ ad : Nat → Nat, ad = fun k => if k = 1 then q1 else if k = 2 then q2 else q3 := ⟨_, rfl⟩
  replace hw : q_H (gB D cI cJ cS (fun k => if k = 0 then h0 else ad k) adK adV) (c_A h0 s.heap.size) s q_0 H locs := by subst had; exact hw
  refine q_callv (out := σB) hw (va_runV (As := [.int 3]) (rest := []) C0 (kB0_become (k := 0) rfl hB _) (cwV 1 hts gX0_init_X0_become rfl rfl rfl eX0_become_ ⟨(Nat.le_of_ble_eq_true rfl), (Nat.le_of_ble_eq_true rfl)⟩) ⟨q_blind, q_recv (k := 0) hw (bN_2 rfl) (bE_2 rfl) rfl, q_pre hw⟩ rfl rfl hl.1 rfl (lv_room (Nat.le_of_ble_eq_true rfl)) dX0_init_29 ⟨(Nat.le_of_ble_eq_true rfl), (Nat.le_of_ble_eq_true rfl)⟩) (fun H locs hw => ?_)
  exact c_vret (out := oB D cI cJ cS adK adV σB) (ad) C0 hr hlk hw dX0_init_32
theorem iX1_init_X1 : ∀ w ∈ wsX10, w ∈ wsX1_init := by decide +kernel
def oL (cJ : ClassId) (h0 : Nat) (ad : Nat → Nat) : va_W := [(h0, .inr (1, [.long 0, .ref (ad 1), .ref (ad 2)])), (ad 1, .inl (cJ, 6, .inr (.inl (fun _ => 0)))), (ad 2, .inl (cJ, 6, .inr (.inl (fun _ => 0))))]
set_option maxHeartbeats 8000000 in
set_option maxRecDepth 100000 in
theorem kX1_init : c_M l D (tyX_ cI cJ cS) adK adV yX1_init wsX1_init { frames := 1, cells := 2, slots := 12, locals := 12 } (fun _ => True) (.inr (1, [.long 0, .null, .null])) (oL cJ) 2 12 := by
  refine c_M_of (cc := cX1_init) (maxL := 1) (by decide) rfl rfl (by decide) ?_
  intro h0 p e s m below meth c ls C0 hr hlk hnm hl hX hw
  obtain ⟨hx, hb, hml, hown, hts⟩ := id C0
  refine lv_aload_n hx hb dX1_init_0 rfl (lv_at hl 0 rfl) ?_
  refine W.objInit hx hb hown (hts (.methodLink RX1 3 objectInit) (by decide +kernel)) (hts (.instanceMethod objectInit) (by decide +kernel)) (hts (.code objectInit ⟨#[0xb1]⟩ 1 none) (by decide +kernel)) rfl (by rw [hml]; exact hl.1) rfl dX1_init_1 (Nat.le_of_ble_eq_true rfl) (Nat.le_of_ble_eq_true rfl) ?_
  refine W.eq (g2 := F0 m 4 ls []) rfl ?_
  refine lv_aload_n hx hb dX1_init_4 rfl (lv_at hl 0 rfl) ?_
  refine lv_lconst (v := (0 : Int64)) hx hb dX1_init_5 (by decide) ?_
  refine c_put (k := 0) (j := 0) (ty := .long) C0 hw rfl rfl iX1_init_X1 tyX1 tyX1_ok nmX1 (by decide) (by decide +kernel) rfl rfl (by decide +kernel) rfl rfl (Nat.le_of_ble_eq_true rfl) dX1_init_6 (fun H locs hw => ?_)
  replace hw : c_H D (tyX_ cI cJ cS) adK adV (c_A h0 s.heap.size) s ([(h0, .inr (1, [.long 0, .null, .null]))]) _ _ := hw
  refine lv_aload_n hx hb dX1_init_9 rfl (lv_at hl 0 rfl) ?_
  refine lv_bipush (v := (6 : Int32)) hx hb dX1_init_10 (by decide) ?_
  refine c_newl (t0 := 1) (N' := 6) C0 hw rfl (by decide +kernel) (by decide) (by decide) (by decide) (Nat.le_of_ble_eq_true rfl) (Nat.le_of_ble_eq_true rfl) dX1_init_12 (fun q1 H hw => ?_)
  replace hw : c_H D (tyX_ cI cJ cS) adK adV (c_A h0 s.heap.size) s ((h0, .inr (1, [.long 0, .null, .null])) :: ([(q1, .inl (cJ, 6, .inr (.inl (fun _ => 0))))])) _ _ := hw
  refine c_putF (k := 0) (j := 1) (ty := (.array .long)) C0 hnm hw rfl rfl iX1_init_X1 tyX1 tyX1_ok nmX1 (by decide) (by decide +kernel) rfl rfl rfl (by decide +kernel) rfl rfl (Nat.le_of_ble_eq_true rfl) dX1_init_14 (fun H locs hw => ?_)
  replace hw : c_H D (tyX_ cI cJ cS) adK adV (c_A h0 s.heap.size) s ((h0, .inr (1, [.long 0, .ref q1, .null])) :: ([(q1, .inl (cJ, 6, .inr (.inl (fun _ => 0))))])) _ _ := hw
  refine lv_aload_n hx hb dX1_init_17 rfl (lv_at hl 0 rfl) ?_
  refine lv_bipush (v := (6 : Int32)) hx hb dX1_init_18 (by decide) ?_
  refine c_newl (t0 := 1) (N' := 6) C0 hw rfl (by decide +kernel) (by decide) (by decide) (by decide) (Nat.le_of_ble_eq_true rfl) (Nat.le_of_ble_eq_true rfl) dX1_init_20 (fun q2 H hw => ?_)
  replace hw : c_H D (tyX_ cI cJ cS) adK adV (c_A h0 s.heap.size) s ((h0, .inr (1, [.long 0, .ref q1, .null])) :: ([(q1, .inl (cJ, 6, .inr (.inl (fun _ => 0))))] ++ [(q2, .inl (cJ, 6, .inr (.inl (fun _ => 0))))])) _ _ := hw
  refine c_putF (k := 0) (j := 2) (ty := (.array .long)) C0 hnm hw rfl rfl iX1_init_X1 tyX1 tyX1_ok nmX1 (by decide) (by decide +kernel) rfl rfl rfl (by decide +kernel) rfl rfl (Nat.le_of_ble_eq_true rfl) dX1_init_22 (fun H locs hw => ?_)
  replace hw : c_H D (tyX_ cI cJ cS) adK adV (c_A h0 s.heap.size) s ((h0, .inr (1, [.long 0, .ref q1, .ref q2])) :: ([(q1, .inl (cJ, 6, .inr (.inl (fun _ => 0))))] ++ [(q2, .inl (cJ, 6, .inr (.inl (fun _ => 0))))])) _ _ := hw
  exact c_vret (out := oL cJ) (fun k => if k = 1 then q1 else q2) C0 hr hlk hw dX1_init_25
theorem iX3_init_X3 : ∀ w ∈ wsX30, w ∈ wsX3_init := by decide +kernel
def oV (h0 : Nat) (_ad : Nat → Nat) : va_W := [(h0, .inr (3, [.int 1, .int 0, .int 0]))]
set_option maxHeartbeats 8000000 in
set_option maxRecDepth 100000 in
theorem kX3_init : c_M l D (tyX_ cI cJ cS) adK adV yX3_init wsX3_init { frames := 1, cells := 0, slots := 0, locals := 12 } (fun _ => True) (.inr (3, [.int 0, .int 0, .int 0])) (oV) 0 0 := by
  refine c_M_of (cc := cX3_init) (maxL := 1) (by decide) rfl rfl (by decide) ?_
  intro h0 p e s m below meth c ls C0 hr hlk hnm hl hX hw
  obtain ⟨hx, hb, hml, hown, hts⟩ := id C0
  refine lv_aload_n hx hb dX3_init_0 rfl (lv_at hl 0 rfl) ?_
  refine W.objInit hx hb hown (hts (.methodLink RX3 3 objectInit) (by decide +kernel)) (hts (.instanceMethod objectInit) (by decide +kernel)) (hts (.code objectInit ⟨#[0xb1]⟩ 1 none) (by decide +kernel)) rfl (by rw [hml]; exact hl.1) rfl dX3_init_1 (Nat.le_of_ble_eq_true rfl) (Nat.le_of_ble_eq_true rfl) ?_
  refine W.eq (g2 := F0 m 4 ls []) rfl ?_
  refine lv_aload_n hx hb dX3_init_4 rfl (lv_at hl 0 rfl) ?_
  refine lv_iconst (v := (1 : Int32)) hx hb dX3_init_5 (by decide) ?_
  refine c_put (k := 0) (j := 0) (ty := .int) C0 hw rfl rfl iX3_init_X3 tyX3 tyX3_ok nmX3 (by decide) (by decide +kernel) rfl rfl (by decide +kernel) rfl rfl (Nat.le_of_ble_eq_true rfl) dX3_init_6 (fun H locs hw => ?_)
  replace hw : c_H D (tyX_ cI cJ cS) adK adV (c_A h0 s.heap.size) s ([(h0, .inr (3, [.int 1, .int 0, .int 0]))]) _ _ := hw
  refine lv_aload_n hx hb dX3_init_9 rfl (lv_at hl 0 rfl) ?_
  refine lv_iconst (v := (0 : Int32)) hx hb dX3_init_10 (by decide) ?_
  refine c_put (k := 0) (j := 1) (ty := .int) C0 hw rfl rfl iX3_init_X3 tyX3 tyX3_ok nmX3 (by decide) (by decide +kernel) rfl rfl (by decide +kernel) rfl rfl (Nat.le_of_ble_eq_true rfl) dX3_init_11 (fun H locs hw => ?_)
  replace hw : c_H D (tyX_ cI cJ cS) adK adV (c_A h0 s.heap.size) s ([(h0, .inr (3, [.int 1, .int 0, .int 0]))]) _ _ := hw
  refine lv_aload_n hx hb dX3_init_14 rfl (lv_at hl 0 rfl) ?_
  refine lv_iconst (v := (0 : Int32)) hx hb dX3_init_15 (by decide) ?_
  refine c_put (k := 0) (j := 2) (ty := .int) C0 hw rfl rfl iX3_init_X3 tyX3 tyX3_ok nmX3 (by decide) (by decide +kernel) rfl rfl (by decide +kernel) rfl rfl (Nat.le_of_ble_eq_true rfl) dX3_init_16 (fun H locs hw => ?_)
  replace hw : c_H D (tyX_ cI cJ cS) adK adV (c_A h0 s.heap.size) s ([(h0, .inr (3, [.int 1, .int 0, .int 0]))]) _ _ := hw
  exact c_vret (out := oV) (fun _ => 0) C0 hr hlk hw dX3_init_19
theorem iX5_init_X5 : ∀ w ∈ wsX50, w ∈ wsX5_init := by decide +kernel
def oR (cJ : ClassId) (h0 : Nat) (ad : Nat → Nat) : va_W := [(h0, .inr (4, [.int 0, .int 0, .ref (ad 1)])), (ad 1, .inl (cJ, 40, .inr (.inl (fun _ => 0))))]
set_option maxHeartbeats 8000000 in
set_option maxRecDepth 100000 in
theorem kX5_init : c_M l D (tyX_ cI cJ cS) adK adV yX5_init wsX5_init { frames := 1, cells := 1, slots := 40, locals := 12 } (fun _ => True) (.inr (4, [.int 0, .int 0, .null])) (oR cJ) 1 40 := by
  refine c_M_of (cc := cX5_init) (maxL := 1) (by decide) rfl rfl (by decide) ?_
  intro h0 p e s m below meth c ls C0 hr hlk hnm hl hX hw
  obtain ⟨hx, hb, hml, hown, hts⟩ := id C0
  refine lv_aload_n hx hb dX5_init_0 rfl (lv_at hl 0 rfl) ?_
  refine W.objInit hx hb hown (hts (.methodLink RX5 3 objectInit) (by decide +kernel)) (hts (.instanceMethod objectInit) (by decide +kernel)) (hts (.code objectInit ⟨#[0xb1]⟩ 1 none) (by decide +kernel)) rfl (by rw [hml]; exact hl.1) rfl dX5_init_1 (Nat.le_of_ble_eq_true rfl) (Nat.le_of_ble_eq_true rfl) ?_
  refine W.eq (g2 := F0 m 4 ls []) rfl ?_
  refine lv_aload_n hx hb dX5_init_4 rfl (lv_at hl 0 rfl) ?_
  refine lv_iconst (v := (0 : Int32)) hx hb dX5_init_5 (by decide) ?_
  refine c_put (k := 0) (j := 0) (ty := .int) C0 hw rfl rfl iX5_init_X5 tyX5 tyX5_ok nmX5 (by decide) (by decide +kernel) rfl rfl (by decide +kernel) rfl rfl (Nat.le_of_ble_eq_true rfl) dX5_init_6 (fun H locs hw => ?_)
  replace hw : c_H D (tyX_ cI cJ cS) adK adV (c_A h0 s.heap.size) s ([(h0, .inr (4, [.int 0, .int 0, .null]))]) _ _ := hw
  refine lv_aload_n hx hb dX5_init_9 rfl (lv_at hl 0 rfl) ?_
  refine lv_iconst (v := (0 : Int32)) hx hb dX5_init_10 (by decide) ?_
  refine c_put (k := 0) (j := 1) (ty := .int) C0 hw rfl rfl iX5_init_X5 tyX5 tyX5_ok nmX5 (by decide) (by decide +kernel) rfl rfl (by decide +kernel) rfl rfl (Nat.le_of_ble_eq_true rfl) dX5_init_11 (fun H locs hw => ?_)
  replace hw : c_H D (tyX_ cI cJ cS) adK adV (c_A h0 s.heap.size) s ([(h0, .inr (4, [.int 0, .int 0, .null]))]) _ _ := hw
  refine lv_aload_n hx hb dX5_init_14 rfl (lv_at hl 0 rfl) ?_
  refine lv_bipush (v := (40 : Int32)) hx hb dX5_init_15 (by decide) ?_
  refine c_newl (t0 := 1) (N' := 40) C0 hw rfl (by decide +kernel) (by decide) (by decide) (by decide) (Nat.le_of_ble_eq_true rfl) (Nat.le_of_ble_eq_true rfl) dX5_init_17 (fun q1 H hw => ?_)
  replace hw : c_H D (tyX_ cI cJ cS) adK adV (c_A h0 s.heap.size) s ((h0, .inr (4, [.int 0, .int 0, .null])) :: ([(q1, .inl (cJ, 40, .inr (.inl (fun _ => 0))))])) _ _ := hw
  refine c_putF (k := 0) (j := 2) (ty := (.array .long)) C0 hnm hw rfl rfl iX5_init_X5 tyX5 tyX5_ok nmX5 (by decide) (by decide +kernel) rfl rfl rfl (by decide +kernel) rfl rfl (Nat.le_of_ble_eq_true rfl) dX5_init_19 (fun H locs hw => ?_)
  replace hw : c_H D (tyX_ cI cJ cS) adK adV (c_A h0 s.heap.size) s ((h0, .inr (4, [.int 0, .int 0, .ref q1])) :: ([(q1, .inl (cJ, 40, .inr (.inl (fun _ => 0))))])) _ _ := hw
  exact c_vret (out := oR cJ) (fun _ => q1) C0 hr hlk hw dX5_init_22
theorem iX7_init_X7 : ∀ w ∈ wsX70, w ∈ wsX7_init := by decide +kernel
def oT (cI : ClassId) (h0 : Nat) (ad : Nat → Nat) : va_W := [(h0, .inr (6, [.int 0, .int 0, .int 0, .int 0, .ref (ad 1)])), (ad 1, .inl (cI, 250, .inl (fun _ => 0)))]
set_option maxHeartbeats 8000000 in
set_option maxRecDepth 100000 in
theorem kX7_init : c_M l D (tyX_ cI cJ cS) adK adV yX7_init wsX7_init { frames := 1, cells := 1, slots := 250, locals := 12 } (fun _ => True) (.inr (6, [.int 0, .int 0, .int 0, .int 0, .null])) (oT cI) 1 250 := by
  refine c_M_of (cc := cX7_init) (maxL := 1) (by decide) rfl rfl (by decide) ?_
  intro h0 p e s m below meth c ls C0 hr hlk hnm hl hX hw
  obtain ⟨hx, hb, hml, hown, hts⟩ := id C0
  refine lv_aload_n hx hb dX7_init_0 rfl (lv_at hl 0 rfl) ?_
  refine W.objInit hx hb hown (hts (.methodLink RX7 3 objectInit) (by decide +kernel)) (hts (.instanceMethod objectInit) (by decide +kernel)) (hts (.code objectInit ⟨#[0xb1]⟩ 1 none) (by decide +kernel)) rfl (by rw [hml]; exact hl.1) rfl dX7_init_1 (Nat.le_of_ble_eq_true rfl) (Nat.le_of_ble_eq_true rfl) ?_
  refine W.eq (g2 := F0 m 4 ls []) rfl ?_
  refine lv_aload_n hx hb dX7_init_4 rfl (lv_at hl 0 rfl) ?_
  refine lv_iconst (v := (0 : Int32)) hx hb dX7_init_5 (by decide) ?_
  refine c_put (k := 0) (j := 0) (ty := .int) C0 hw rfl rfl iX7_init_X7 tyX7 tyX7_ok nmX7 (by decide) (by decide +kernel) rfl rfl (by decide +kernel) rfl rfl (Nat.le_of_ble_eq_true rfl) dX7_init_6 (fun H locs hw => ?_)
  replace hw : c_H D (tyX_ cI cJ cS) adK adV (c_A h0 s.heap.size) s ([(h0, .inr (6, [.int 0, .int 0, .int 0, .int 0, .null]))]) _ _ := hw
  refine lv_aload_n hx hb dX7_init_9 rfl (lv_at hl 0 rfl) ?_
  refine lv_iconst (v := (0 : Int32)) hx hb dX7_init_10 (by decide) ?_
  refine c_put (k := 0) (j := 1) (ty := .int) C0 hw rfl rfl iX7_init_X7 tyX7 tyX7_ok nmX7 (by decide) (by decide +kernel) rfl rfl (by decide +kernel) rfl rfl (Nat.le_of_ble_eq_true rfl) dX7_init_11 (fun H locs hw => ?_)
  replace hw : c_H D (tyX_ cI cJ cS) adK adV (c_A h0 s.heap.size) s ([(h0, .inr (6, [.int 0, .int 0, .int 0, .int 0, .null]))]) _ _ := hw
  refine lv_aload_n hx hb dX7_init_14 rfl (lv_at hl 0 rfl) ?_
  refine lv_iconst (v := (0 : Int32)) hx hb dX7_init_15 (by decide) ?_
  refine c_put (k := 0) (j := 2) (ty := .int) C0 hw rfl rfl iX7_init_X7 tyX7 tyX7_ok nmX7 (by decide) (by decide +kernel) rfl rfl (by decide +kernel) rfl rfl (Nat.le_of_ble_eq_true rfl) dX7_init_16 (fun H locs hw => ?_)
  replace hw : c_H D (tyX_ cI cJ cS) adK adV (c_A h0 s.heap.size) s ([(h0, .inr (6, [.int 0, .int 0, .int 0, .int 0, .null]))]) _ _ := hw
  refine lv_aload_n hx hb dX7_init_19 rfl (lv_at hl 0 rfl) ?_
  refine lv_iconst (v := (0 : Int32)) hx hb dX7_init_20 (by decide) ?_
  refine c_put (k := 0) (j := 3) (ty := .int) C0 hw rfl rfl iX7_init_X7 tyX7 tyX7_ok nmX7 (by decide) (by decide +kernel) rfl rfl (by decide +kernel) rfl rfl (Nat.le_of_ble_eq_true rfl) dX7_init_21 (fun H locs hw => ?_)
  replace hw : c_H D (tyX_ cI cJ cS) adK adV (c_A h0 s.heap.size) s ([(h0, .inr (6, [.int 0, .int 0, .int 0, .int 0, .null]))]) _ _ := hw
  refine lv_aload_n hx hb dX7_init_24 rfl (lv_at hl 0 rfl) ?_
  refine lv_sipush (v := (250 : Int32)) hx hb dX7_init_25 (by decide) ?_
  refine c_newi (t0 := 0) (N' := 250) C0 hw rfl (by decide +kernel) (by decide) (by decide) (by decide) (Nat.le_of_ble_eq_true rfl) (Nat.le_of_ble_eq_true rfl) dX7_init_28 (fun q1 H hw => ?_)
  replace hw : c_H D (tyX_ cI cJ cS) adK adV (c_A h0 s.heap.size) s ((h0, .inr (6, [.int 0, .int 0, .int 0, .int 0, .null])) :: ([(q1, .inl (cI, 250, .inl (fun _ => 0)))])) _ _ := hw
  refine c_putF (k := 0) (j := 4) (ty := (.array .int)) C0 hnm hw rfl rfl iX7_init_X7 tyX7 tyX7_ok nmX7 (by decide) (by decide +kernel) rfl rfl rfl (by decide +kernel) rfl rfl (Nat.le_of_ble_eq_true rfl) dX7_init_30 (fun H locs hw => ?_)
  replace hw : c_H D (tyX_ cI cJ cS) adK adV (c_A h0 s.heap.size) s ((h0, .inr (6, [.int 0, .int 0, .int 0, .int 0, .ref q1])) :: ([(q1, .inl (cI, 250, .inl (fun _ => 0)))])) _ _ := hw
  exact c_vret (out := oT cI) (fun _ => q1) C0 hr hlk hw dX7_init_33
theorem iX2_init_X2 : ∀ w ∈ wsX20, w ∈ wsX2_init := by decide +kernel
theorem iX2_init_X0 : ∀ w ∈ wsX00, w ∈ wsX2_init := by decide +kernel
def mC (cI cJ : ClassId) (σ : q_M) (a : Nat → Nat) : va_W := [(a 0, .inr (2, [.ref (a 1), .long (σ.2 0 1), .int (σ.1 0 2), .int (σ.1 0 3), .int (σ.1 0 4), .int (σ.1 0 5), .ref (a 5), .ref (a 6)])), (a 1, .inr (0, [.int (σ.1 1 0), .int (σ.1 1 1), .long (σ.2 1 2), .ref (a 2), .ref (a 3), .ref (a 4)])), (a 2, .inl (cI, 3, .inl (σ.1 2))), (a 3, .inl (cJ, 12, .inr (.inl (σ.2 3)))), (a 4, .inl (cJ, 6, .inr (.inl (σ.2 4)))), (a 5, .inl (cJ, 8, .inr (.inl (σ.2 5)))), (a 6, .inl (cJ, 4, .inr (.inl (σ.2 6))))]
def oM (cI cJ : ClassId) (σB : q_M) (h0 : Nat) (ad : Nat → Nat) : va_W := mC cI cJ (mMo σB) (fun k => if k = 0 then h0 else ad k)
set_option maxHeartbeats 8000000 in
set_option maxRecDepth 100000 in
theorem kX2_init {σB : q_M} (hB : fX0_become 0 3 q_0 = some σB) : c_M l D (tyX_ cI cJ cS) adK adV yX2_init wsX2_init { frames := 3, cells := 6, slots := 39, locals := 70 } (fun _ => True) (.inr (2, [.null, .long 0, .int 0, .int 0, .int 0, .int 0, .null, .null])) (oM cI cJ σB) 6 39 := by
  refine c_M_of (cc := cX2_init) (maxL := 1) (by decide) rfl rfl (by decide) ?_
  intro h0 p e s m below meth c ls C0 hr hlk hnm hl hX hw
  obtain ⟨hx, hb, hml, hown, hts⟩ := id C0
  refine lv_aload_n hx hb dX2_init_0 rfl (lv_at hl 0 rfl) ?_
  refine W.objInit hx hb hown (hts (.methodLink RX2 3 objectInit) (by decide +kernel)) (hts (.instanceMethod objectInit) (by decide +kernel)) (hts (.code objectInit ⟨#[0xb1]⟩ 1 none) (by decide +kernel)) rfl (by rw [hml]; exact hl.1) rfl dX2_init_1 (Nat.le_of_ble_eq_true rfl) (Nat.le_of_ble_eq_true rfl) ?_
  refine W.eq (g2 := F0 m 4 ls []) rfl ?_
  refine lv_aload_n hx hb dX2_init_4 rfl (lv_at hl 0 rfl) ?_
  refine c_newo (ci := 0) (fs := [.int 0, .int 0, .long 0, .null, .null, .null]) C0 hw rfl iX2_init_X0 tyX0 tyX0_ok (by decide +kernel) (by decide +kernel) (by decide +kernel) (fun j hj => by rcases (show j = 0 ∨ j = 1 ∨ j = 2 ∨ j = 3 ∨ j = 4 ∨ j = 5 by omega) with rfl | rfl | rfl | rfl | rfl | rfl <;> rfl) (Nat.le_of_ble_eq_true rfl) (Nat.le_of_ble_eq_true rfl) dX2_init_5 (fun qb H hw => ?_)
  replace hw : c_H D (tyX_ cI cJ cS) adK adV (c_A h0 s.heap.size) s (([(h0, .inr (2, [.null, .long 0, .int 0, .int 0, .int 0, .int 0, .null, .null]))]) ++ [(qb, .inr (0, [.int 0, .int 0, .long 0, .null, .null, .null]))]) _ _ := hw
  refine lv_dup hx hb dX2_init_8 rfl ?_
  refine c_call hw (va_runI (As := []) (rest := [.ref qb, .ref h0]) C0 (kX0_init hB _ _) (cwI 0 hts gX2_init_X0_init rfl rfl rfl (hts (.initialized RX0) (by decide +kernel)) (hts (.methodLink RX2 11 yX0_init) (by decide +kernel)) (hts (.instanceMethod yX0_init) (by decide +kernel)) rfl ⟨by decide +kernel, by decide +kernel, by decide +kernel⟩ ⟨(Nat.le_of_ble_eq_true rfl), (Nat.le_of_ble_eq_true rfl)⟩) ⟨c_blind (fun _ _ _ _ h => trivial), c_pre hw (fun U hW => trivial)⟩ rfl rfl hl.1 rfl (lv_room (Nat.le_of_ble_eq_true rfl)) dX2_init_9 ⟨(Nat.le_of_ble_eq_true rfl), (Nat.le_of_ble_eq_true rfl)⟩) (fun ab H locs hw => ?_)
  replace hw : c_H D (tyX_ cI cJ cS) adK adV (c_A h0 s.heap.size) s ((h0, .inr (2, [.null, .long 0, .int 0, .int 0, .int 0, .int 0, .null, .null])) :: ([(qb, .inr (0, [.int (σB.1 0 0), .int (σB.1 0 1), .long (σB.2 0 2), .ref (ab 1), .ref (ab 2), .ref (ab 3)])), (ab 1, .inl (cI, 3, .inl (σB.1 1))), (ab 2, .inl (cJ, 12, .inr (.inl (σB.2 2)))), (ab 3, .inl (cJ, 6, .inr (.inl (σB.2 3))))])) _ _ := hw
  refine c_putF (k := 0) (j := 0) (ty := (.object "MouldThatComesOff$Block")) C0 hnm hw rfl rfl iX2_init_X2 tyX2 tyX2_ok nmX2 (by decide) (by decide +kernel) rfl rfl rfl (by decide +kernel) rfl rfl (Nat.le_of_ble_eq_true rfl) dX2_init_12 (fun H locs hw => ?_)
  replace hw : c_H D (tyX_ cI cJ cS) adK adV (c_A h0 s.heap.size) s ((h0, .inr (2, [.ref qb, .long 0, .int 0, .int 0, .int 0, .int 0, .null, .null])) :: ([(qb, .inr (0, [.int (σB.1 0 0), .int (σB.1 0 1), .long (σB.2 0 2), .ref (ab 1), .ref (ab 2), .ref (ab 3)])), (ab 1, .inl (cI, 3, .inl (σB.1 1))), (ab 2, .inl (cJ, 12, .inr (.inl (σB.2 2)))), (ab 3, .inl (cJ, 6, .inr (.inl (σB.2 3))))])) _ _ := hw
  refine lv_aload_n hx hb dX2_init_15 rfl (lv_at hl 0 rfl) ?_
  refine lv_lconst (v := (0 : Int64)) hx hb dX2_init_16 (by decide) ?_
  refine c_put (k := 0) (j := 1) (ty := .long) C0 hw rfl rfl iX2_init_X2 tyX2 tyX2_ok nmX2 (by decide) (by decide +kernel) rfl rfl (by decide +kernel) rfl rfl (Nat.le_of_ble_eq_true rfl) dX2_init_17 (fun H locs hw => ?_)
  replace hw : c_H D (tyX_ cI cJ cS) adK adV (c_A h0 s.heap.size) s ((h0, .inr (2, [.ref qb, .long 0, .int 0, .int 0, .int 0, .int 0, .null, .null])) :: ([(qb, .inr (0, [.int (σB.1 0 0), .int (σB.1 0 1), .long (σB.2 0 2), .ref (ab 1), .ref (ab 2), .ref (ab 3)])), (ab 1, .inl (cI, 3, .inl (σB.1 1))), (ab 2, .inl (cJ, 12, .inr (.inl (σB.2 2)))), (ab 3, .inl (cJ, 6, .inr (.inl (σB.2 3))))])) _ _ := hw
  refine lv_aload_n hx hb dX2_init_20 rfl (lv_at hl 0 rfl) ?_
  refine lv_iconst (v := (0 : Int32)) hx hb dX2_init_21 (by decide) ?_
  refine c_put (k := 0) (j := 2) (ty := .int) C0 hw rfl rfl iX2_init_X2 tyX2 tyX2_ok nmX2 (by decide) (by decide +kernel) rfl rfl (by decide +kernel) rfl rfl (Nat.le_of_ble_eq_true rfl) dX2_init_22 (fun H locs hw => ?_)
  replace hw : c_H D (tyX_ cI cJ cS) adK adV (c_A h0 s.heap.size) s ((h0, .inr (2, [.ref qb, .long 0, .int 0, .int 0, .int 0, .int 0, .null, .null])) :: ([(qb, .inr (0, [.int (σB.1 0 0), .int (σB.1 0 1), .long (σB.2 0 2), .ref (ab 1), .ref (ab 2), .ref (ab 3)])), (ab 1, .inl (cI, 3, .inl (σB.1 1))), (ab 2, .inl (cJ, 12, .inr (.inl (σB.2 2)))), (ab 3, .inl (cJ, 6, .inr (.inl (σB.2 3))))])) _ _ := hw
  refine lv_aload_n hx hb dX2_init_25 rfl (lv_at hl 0 rfl) ?_
  refine lv_iconst (v := (0 : Int32)) hx hb dX2_init_26 (by decide) ?_
  refine c_put (k := 0) (j := 3) (ty := .int) C0 hw rfl rfl iX2_init_X2 tyX2 tyX2_ok nmX2 (by decide) (by decide +kernel) rfl rfl (by decide +kernel) rfl rfl (Nat.le_of_ble_eq_true rfl) dX2_init_27 (fun H locs hw => ?_)
  replace hw : c_H D (tyX_ cI cJ cS) adK adV (c_A h0 s.heap.size) s ((h0, .inr (2, [.ref qb, .long 0, .int 0, .int 0, .int 0, .int 0, .null, .null])) :: ([(qb, .inr (0, [.int (σB.1 0 0), .int (σB.1 0 1), .long (σB.2 0 2), .ref (ab 1), .ref (ab 2), .ref (ab 3)])), (ab 1, .inl (cI, 3, .inl (σB.1 1))), (ab 2, .inl (cJ, 12, .inr (.inl (σB.2 2)))), (ab 3, .inl (cJ, 6, .inr (.inl (σB.2 3))))])) _ _ := hw
  refine lv_aload_n hx hb dX2_init_30 rfl (lv_at hl 0 rfl) ?_
  refine lv_bipush (v := (64 : Int32)) hx hb dX2_init_31 (by decide) ?_
  refine c_put (k := 0) (j := 4) (ty := .int) C0 hw rfl rfl iX2_init_X2 tyX2 tyX2_ok nmX2 (by decide) (by decide +kernel) rfl rfl (by decide +kernel) rfl rfl (Nat.le_of_ble_eq_true rfl) dX2_init_33 (fun H locs hw => ?_)
  replace hw : c_H D (tyX_ cI cJ cS) adK adV (c_A h0 s.heap.size) s ((h0, .inr (2, [.ref qb, .long 0, .int 0, .int 0, .int 64, .int 0, .null, .null])) :: ([(qb, .inr (0, [.int (σB.1 0 0), .int (σB.1 0 1), .long (σB.2 0 2), .ref (ab 1), .ref (ab 2), .ref (ab 3)])), (ab 1, .inl (cI, 3, .inl (σB.1 1))), (ab 2, .inl (cJ, 12, .inr (.inl (σB.2 2)))), (ab 3, .inl (cJ, 6, .inr (.inl (σB.2 3))))])) _ _ := hw
  refine lv_aload_n hx hb dX2_init_36 rfl (lv_at hl 0 rfl) ?_
  refine lv_bipush (v := (100 : Int32)) hx hb dX2_init_37 (by decide) ?_
  refine c_put (k := 0) (j := 5) (ty := .int) C0 hw rfl rfl iX2_init_X2 tyX2 tyX2_ok nmX2 (by decide) (by decide +kernel) rfl rfl (by decide +kernel) rfl rfl (Nat.le_of_ble_eq_true rfl) dX2_init_39 (fun H locs hw => ?_)
  replace hw : c_H D (tyX_ cI cJ cS) adK adV (c_A h0 s.heap.size) s ((h0, .inr (2, [.ref qb, .long 0, .int 0, .int 0, .int 64, .int 100, .null, .null])) :: ([(qb, .inr (0, [.int (σB.1 0 0), .int (σB.1 0 1), .long (σB.2 0 2), .ref (ab 1), .ref (ab 2), .ref (ab 3)])), (ab 1, .inl (cI, 3, .inl (σB.1 1))), (ab 2, .inl (cJ, 12, .inr (.inl (σB.2 2)))), (ab 3, .inl (cJ, 6, .inr (.inl (σB.2 3))))])) _ _ := hw
  refine lv_aload_n hx hb dX2_init_42 rfl (lv_at hl 0 rfl) ?_
  refine lv_bipush (v := (8 : Int32)) hx hb dX2_init_43 (by decide) ?_
  refine c_newl (t0 := 1) (N' := 8) C0 hw rfl (by decide +kernel) (by decide) (by decide) (by decide) (Nat.le_of_ble_eq_true rfl) (Nat.le_of_ble_eq_true rfl) dX2_init_45 (fun q5 H hw => ?_)
  replace hw : c_H D (tyX_ cI cJ cS) adK adV (c_A h0 s.heap.size) s ((h0, .inr (2, [.ref qb, .long 0, .int 0, .int 0, .int 64, .int 100, .null, .null])) :: ([(qb, .inr (0, [.int (σB.1 0 0), .int (σB.1 0 1), .long (σB.2 0 2), .ref (ab 1), .ref (ab 2), .ref (ab 3)])), (ab 1, .inl (cI, 3, .inl (σB.1 1))), (ab 2, .inl (cJ, 12, .inr (.inl (σB.2 2)))), (ab 3, .inl (cJ, 6, .inr (.inl (σB.2 3))))] ++ [(q5, .inl (cJ, 8, .inr (.inl (fun _ => 0))))])) _ _ := hw
  refine c_putF (k := 0) (j := 6) (ty := (.array .long)) C0 hnm hw rfl rfl iX2_init_X2 tyX2 tyX2_ok nmX2 (by decide) (by decide +kernel) rfl rfl rfl (by decide +kernel) rfl rfl (Nat.le_of_ble_eq_true rfl) dX2_init_47 (fun H locs hw => ?_)
  replace hw : c_H D (tyX_ cI cJ cS) adK adV (c_A h0 s.heap.size) s ((h0, .inr (2, [.ref qb, .long 0, .int 0, .int 0, .int 64, .int 100, .ref q5, .null])) :: ([(qb, .inr (0, [.int (σB.1 0 0), .int (σB.1 0 1), .long (σB.2 0 2), .ref (ab 1), .ref (ab 2), .ref (ab 3)])), (ab 1, .inl (cI, 3, .inl (σB.1 1))), (ab 2, .inl (cJ, 12, .inr (.inl (σB.2 2)))), (ab 3, .inl (cJ, 6, .inr (.inl (σB.2 3))))] ++ [(q5, .inl (cJ, 8, .inr (.inl (fun _ => 0))))])) _ _ := hw
  refine lv_aload_n hx hb dX2_init_50 rfl (lv_at hl 0 rfl) ?_
  refine lv_iconst (v := (4 : Int32)) hx hb dX2_init_51 (by decide) ?_
  refine c_newl (t0 := 1) (N' := 4) C0 hw rfl (by decide +kernel) (by decide) (by decide) (by decide) (Nat.le_of_ble_eq_true rfl) (Nat.le_of_ble_eq_true rfl) dX2_init_52 (fun q6 H hw => ?_)
  replace hw : c_H D (tyX_ cI cJ cS) adK adV (c_A h0 s.heap.size) s ((h0, .inr (2, [.ref qb, .long 0, .int 0, .int 0, .int 64, .int 100, .ref q5, .null])) :: ([(qb, .inr (0, [.int (σB.1 0 0), .int (σB.1 0 1), .long (σB.2 0 2), .ref (ab 1), .ref (ab 2), .ref (ab 3)])), (ab 1, .inl (cI, 3, .inl (σB.1 1))), (ab 2, .inl (cJ, 12, .inr (.inl (σB.2 2)))), (ab 3, .inl (cJ, 6, .inr (.inl (σB.2 3))))] ++ [(q5, .inl (cJ, 8, .inr (.inl (fun _ => 0))))] ++ [(q6, .inl (cJ, 4, .inr (.inl (fun _ => 0))))])) _ _ := hw
  refine c_putF (k := 0) (j := 7) (ty := (.array .long)) C0 hnm hw rfl rfl iX2_init_X2 tyX2 tyX2_ok nmX2 (by decide) (by decide +kernel) rfl rfl rfl (by decide +kernel) rfl rfl (Nat.le_of_ble_eq_true rfl) dX2_init_54 (fun H locs hw => ?_)
  replace hw : c_H D (tyX_ cI cJ cS) adK adV (c_A h0 s.heap.size) s ((h0, .inr (2, [.ref qb, .long 0, .int 0, .int 0, .int 64, .int 100, .ref q5, .ref q6])) :: ([(qb, .inr (0, [.int (σB.1 0 0), .int (σB.1 0 1), .long (σB.2 0 2), .ref (ab 1), .ref (ab 2), .ref (ab 3)])), (ab 1, .inl (cI, 3, .inl (σB.1 1))), (ab 2, .inl (cJ, 12, .inr (.inl (σB.2 2)))), (ab 3, .inl (cJ, 6, .inr (.inl (σB.2 3))))] ++ [(q5, .inl (cJ, 8, .inr (.inl (fun _ => 0))))] ++ [(q6, .inl (cJ, 4, .inr (.inl (fun _ => 0))))])) _ _ := hw
  refine lv_aload_n hx hb dX2_init_57 rfl (lv_at hl 0 rfl) ?_
  refine c_get (k := 0) (j := 7) C0 hw rfl rfl iX2_init_X2 (by decide) (by decide +kernel) rfl rfl dX2_init_58 ?_
  refine lv_iconst (v := (0 : Int32)) hx hb dX2_init_61 (by decide) ?_
  refine lv_aload_n hx hb dX2_init_62 rfl (lv_at hl 0 rfl) ?_
  refine c_get (k := 0) (j := 0) C0 hw rfl rfl iX2_init_X2 (by decide) (by decide +kernel) rfl rfl dX2_init_63 ?_
  refine c_get (k := 1) (j := 2) C0 hw rfl rfl iX2_init_X0 (by decide) (by decide +kernel) rfl rfl dX2_init_66 ?_
  refine c_last (k := 6) (t0 := 1) C0 hw rfl rfl (vp_in_nI (n := 0) (by decide) (by decide)) dX2_init_69 (fun H locs hw => ?_)
  replace hw : c_H D (tyX_ cI cJ cS) adK adV (c_A h0 s.heap.size) s ((h0, .inr (2, [.ref qb, .long 0, .int 0, .int 0, .int 64, .int 100, .ref q5, .ref q6])) :: ([(qb, .inr (0, [.int (σB.1 0 0), .int (σB.1 0 1), .long (σB.2 0 2), .ref (ab 1), .ref (ab 2), .ref (ab 3)])), (ab 1, .inl (cI, 3, .inl (σB.1 1))), (ab 2, .inl (cJ, 12, .inr (.inl (σB.2 2)))), (ab 3, .inl (cJ, 6, .inr (.inl (σB.2 3))))] ++ [(q5, .inl (cJ, 8, .inr (.inl (fun _ => 0))))] ++ [(q6, .inl (cJ, 4, .inr (.inl (vp_updL (fun _ => 0) 0 (σB.2 0 2)))))])) _ _ := hw
  exact c_vret (out := oM cI cJ σB) (fun k => if k = 1 then qb else if k = 2 then ab 1 else if k = 3 then ab 2 else if k = 4 then ab 3 else if k = 5 then q5 else q6) C0 hr hlk hw dX2_init_70
theorem iX6_init_X6 : ∀ w ∈ wsX60, w ∈ wsX6_init := by decide +kernel
theorem iX6_init_X5 : ∀ w ∈ wsX50, w ∈ wsX6_init := by decide +kernel
theorem iX6_init_X3 : ∀ w ∈ wsX30, w ∈ wsX6_init := by decide +kernel
def oS (cJ : ClassId) (h0 : Nat) (ad : Nat → Nat) : va_W := [(h0, .inr (5, [.int (-1), .ref (ad 1), .ref (ad 3)])), (ad 1, .inr (4, [.int 0, .int 0, .ref (ad 2)])), (ad 2, .inl (cJ, 40, .inr (.inl (fun _ => 0)))), (ad 3, .inr (3, [.int 1, .int 0, .int 0]))]
set_option maxHeartbeats 8000000 in
set_option maxRecDepth 100000 in
theorem kX6_init : c_M l D (tyX_ cI cJ cS) adK adV yX6_init wsX6_init { frames := 2, cells := 3, slots := 46, locals := 32 } c_N (.inr (5, [.int 0, .null, .null])) (oS cJ) 3 46 := by
  refine c_M_of (cc := cX6_init) (maxL := 1) (by decide) rfl rfl (by decide) ?_
  intro h0 p e s m below meth c ls C0 hr hlk hnm hl hX hw
  obtain ⟨hx, hb, hml, hown, hts⟩ := id C0
  refine lv_aload_n hx hb dX6_init_0 rfl (lv_at hl 0 rfl) ?_
  refine W.objInit hx hb hown (hts (.methodLink RX6 3 objectInit) (by decide +kernel)) (hts (.instanceMethod objectInit) (by decide +kernel)) (hts (.code objectInit ⟨#[0xb1]⟩ 1 none) (by decide +kernel)) rfl (by rw [hml]; exact hl.1) rfl dX6_init_1 (Nat.le_of_ble_eq_true rfl) (Nat.le_of_ble_eq_true rfl) ?_
  refine W.eq (g2 := F0 m 4 ls []) rfl ?_
  refine lv_aload_n hx hb dX6_init_4 rfl (lv_at hl 0 rfl) ?_
  refine lv_iconst (v := (-1 : Int32)) hx hb dX6_init_5 (by decide) ?_
  refine c_put (k := 0) (j := 0) (ty := .int) C0 hw rfl rfl iX6_init_X6 tyX6 tyX6_ok nmX6 (by decide) (by decide +kernel) rfl rfl (by decide +kernel) rfl rfl (Nat.le_of_ble_eq_true rfl) dX6_init_6 (fun H locs hw => ?_)
  replace hw : c_H D (tyX_ cI cJ cS) adK adV (c_A h0 s.heap.size) s ([(h0, .inr (5, [.int (-1), .null, .null]))]) _ _ := hw
  refine lv_aload_n hx hb dX6_init_9 rfl (lv_at hl 0 rfl) ?_
  refine c_newo (ci := 4) (fs := [.int 0, .int 0, .null]) C0 hw rfl iX6_init_X5 tyX5 tyX5_ok (by decide +kernel) (by decide +kernel) (by decide +kernel) (fun j hj => by rcases (show j = 0 ∨ j = 1 ∨ j = 2 by omega) with rfl | rfl | rfl <;> rfl) (Nat.le_of_ble_eq_true rfl) (Nat.le_of_ble_eq_true rfl) dX6_init_10 (fun qr H hw => ?_)
  replace hw : c_H D (tyX_ cI cJ cS) adK adV (c_A h0 s.heap.size) s (([(h0, .inr (5, [.int (-1), .null, .null]))]) ++ [(qr, .inr (4, [.int 0, .int 0, .null]))]) _ _ := hw
  refine lv_dup hx hb dX6_init_13 rfl ?_
  refine c_call hw (va_runIN (As := []) (rest := [.ref qr, .ref h0]) C0 (kX5_init _ _) ⟨va_cnB (host := RX8) 0 hts gX6_init_X5_init_n17 rfl rfl rfl hX.2.2.2.1 (hts (.initialized RX5) (by decide +kernel)) ⟨by decide +kernel, by decide +kernel, by decide +kernel⟩ ⟨(Nat.le_of_ble_eq_true rfl), (Nat.le_of_ble_eq_true rfl)⟩, rfl, hts (.instanceMethod yX5_init) (by decide +kernel)⟩ ⟨c_blind (fun _ _ _ _ h => trivial), c_pre hw (fun U hW => trivial)⟩ rfl rfl hl.1 rfl (lv_room (Nat.le_of_ble_eq_true rfl)) dX6_init_14 ⟨(Nat.le_of_ble_eq_true rfl), (Nat.le_of_ble_eq_true rfl)⟩) (fun ar H locs hw => ?_)
  replace hw : c_H D (tyX_ cI cJ cS) adK adV (c_A h0 s.heap.size) s ((h0, .inr (5, [.int (-1), .null, .null])) :: ([(qr, .inr (4, [.int 0, .int 0, .ref (ar 1)])), (ar 1, .inl (cJ, 40, .inr (.inl (fun _ => 0))))])) _ _ := hw
  refine c_putF (k := 0) (j := 1) (ty := (.object "MouldThatComesOff$Row")) C0 hnm hw rfl rfl iX6_init_X6 tyX6 tyX6_ok nmX6 (by decide) (by decide +kernel) rfl rfl rfl (by decide +kernel) rfl rfl (Nat.le_of_ble_eq_true rfl) dX6_init_17 (fun H locs hw => ?_)
  replace hw : c_H D (tyX_ cI cJ cS) adK adV (c_A h0 s.heap.size) s ((h0, .inr (5, [.int (-1), .ref qr, .null])) :: ([(qr, .inr (4, [.int 0, .int 0, .ref (ar 1)])), (ar 1, .inl (cJ, 40, .inr (.inl (fun _ => 0))))])) _ _ := hw
  refine lv_aload_n hx hb dX6_init_20 rfl (lv_at hl 0 rfl) ?_
  refine c_newo (ci := 3) (fs := [.int 0, .int 0, .int 0]) C0 hw rfl iX6_init_X3 tyX3 tyX3_ok (by decide +kernel) (by decide +kernel) (by decide +kernel) (fun j hj => by rcases (show j = 0 ∨ j = 1 ∨ j = 2 by omega) with rfl | rfl | rfl <;> rfl) (Nat.le_of_ble_eq_true rfl) (Nat.le_of_ble_eq_true rfl) dX6_init_21 (fun qm H hw => ?_)
  replace hw : c_H D (tyX_ cI cJ cS) adK adV (c_A h0 s.heap.size) s (((h0, .inr (5, [.int (-1), .ref qr, .null])) :: ([(qr, .inr (4, [.int 0, .int 0, .ref (ar 1)])), (ar 1, .inl (cJ, 40, .inr (.inl (fun _ => 0))))])) ++ [(qm, .inr (3, [.int 0, .int 0, .int 0]))]) _ _ := hw
  refine lv_dup hx hb dX6_init_24 rfl ?_
  refine c_call hw (va_runIN (As := []) (rest := [.ref qm, .ref h0]) C0 (kX3_init _ _) ⟨va_cnB (host := RX8) 0 hts gX6_init_X3_init_n24 rfl rfl rfl hX.2.2.2.2.1 (hts (.initialized RX3) (by decide +kernel)) ⟨by decide +kernel, by decide +kernel, by decide +kernel⟩ ⟨(Nat.le_of_ble_eq_true rfl), (Nat.le_of_ble_eq_true rfl)⟩, rfl, hts (.instanceMethod yX3_init) (by decide +kernel)⟩ ⟨c_blind (fun _ _ _ _ h => trivial), c_pre hw (fun U hW => trivial)⟩ rfl rfl hl.1 rfl (lv_room (Nat.le_of_ble_eq_true rfl)) dX6_init_25 ⟨(Nat.le_of_ble_eq_true rfl), (Nat.le_of_ble_eq_true rfl)⟩) (fun am H locs hw => ?_)
  replace hw : c_H D (tyX_ cI cJ cS) adK adV (c_A h0 s.heap.size) s ((h0, .inr (5, [.int (-1), .ref qr, .null])) :: ([(qr, .inr (4, [.int 0, .int 0, .ref (ar 1)])), (ar 1, .inl (cJ, 40, .inr (.inl (fun _ => 0))))] ++ [(qm, .inr (3, [.int 1, .int 0, .int 0]))])) _ _ := hw
  refine c_putF (k := 0) (j := 2) (ty := (.object "MouldThatComesOff$Move")) C0 hnm hw rfl rfl iX6_init_X6 tyX6 tyX6_ok nmX6 (by decide) (by decide +kernel) rfl rfl rfl (by decide +kernel) rfl rfl (Nat.le_of_ble_eq_true rfl) dX6_init_28 (fun H locs hw => ?_)
  replace hw : c_H D (tyX_ cI cJ cS) adK adV (c_A h0 s.heap.size) s ((h0, .inr (5, [.int (-1), .ref qr, .ref qm])) :: ([(qr, .inr (4, [.int 0, .int 0, .ref (ar 1)])), (ar 1, .inl (cJ, 40, .inr (.inl (fun _ => 0))))] ++ [(qm, .inr (3, [.int 1, .int 0, .int 0]))])) _ _ := hw
  exact c_vret (out := oS cJ) (fun k => if k = 1 then qr else if k = 2 then ar 1 else qm) C0 hr hlk hw dX6_init_31
end
