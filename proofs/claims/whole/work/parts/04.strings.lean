/-! The JDK's String methods over the nine words. -/
section
variable {l : Launch} {g : q_G}
set_option maxHeartbeats 4000000 in
set_option maxRecDepth 100000 in
theorem kJ0_coder_7d493 {w : Nat} (hw0 : w < 9) {σ : q_M} {out : Int32 × q_M} (h : fJ0_coder_7d493 w σ = some out) : q_Mi l g yJ0_coder_7d493 wsJ0_coder_7d493 { frames := 0, cells := 0, slots := 0, locals := 0 } [.ref (g.2.2.2.2.2.1 w)] σ out := by
  refine q_Mi_of (cc := cJ0_coder_7d493) (maxL := 1) (ret := some .byte) (by decide) rfl (Nat.le_of_ble_eq_true rfl) ?_
  intro p e s m below meth c ls C0 hr hlk hl hw
  obtain ⟨hx, hb, hml, hown, hts⟩ := id C0
  replace hl : lv_has ls 1 [(0, .ref (g.2.2.2.2.2.1 w))] := hl
  refine va_gets hx hb hw.2.2.2.2.2.2.2.1 hw.2.2.2.1 hown (hts (.fieldLink RJ0 38 "java/lang/String" "COMPACT_STRINGS" "Z") (by decide +kernel)) (fun _ h => h) dJ0_coder_7d493_0 ?_
  refine lv_if_eq (tgt := 13) hx hb dJ0_coder_7d493_3 (by decide) (fun c1 => absurd c1 (by decide)) (fun c1 => ?_)
  refine lv_aload_n hx hb dJ0_coder_7d493_6 rfl (lv_at hl 0 rfl) ?_
  refine vk_getf hx hb (hw.2.2.2.2.2.2.1.1 w hw0).2.1 hw.2.2.2.1 hown (hts (.fieldLink RJ0 15 "java/lang/String" "coder" "B") (by decide +kernel)) (fun _ h => h) dJ0_coder_7d493_7 ?_
  refine lv_goto (tgt := 14) hx hb dJ0_coder_7d493_10 (by decide) ?_
  exact q_zret h C0 hr rfl hlk hw dJ0_coder_7d493_14
set_option maxHeartbeats 4000000 in
set_option maxRecDepth 100000 in
theorem kJ0_isLatin1_aae02 {w : Nat} (hw0 : w < 9) {σ : q_M} {out : Int32 × q_M} (h : fJ0_isLatin1_aae02 w σ = some out) : q_Mi l g yJ0_isLatin1_aae02 wsJ0_isLatin1_aae02 { frames := 0, cells := 0, slots := 0, locals := 0 } [.ref (g.2.2.2.2.2.1 w)] σ out := by
  refine q_Mi_of (cc := cJ0_isLatin1_aae02) (maxL := 1) (ret := some .boolean) (by decide) rfl (Nat.le_of_ble_eq_true rfl) ?_
  intro p e s m below meth c ls C0 hr hlk hl hw
  obtain ⟨hx, hb, hml, hown, hts⟩ := id C0
  replace hl : lv_has ls 1 [(0, .ref (g.2.2.2.2.2.1 w))] := hl
  refine va_gets hx hb hw.2.2.2.2.2.2.2.1 hw.2.2.2.1 hown (hts (.fieldLink RJ0 38 "java/lang/String" "COMPACT_STRINGS" "Z") (by decide +kernel)) (fun _ h => h) dJ0_isLatin1_aae02_0 ?_
  refine lv_if_eq (tgt := 17) hx hb dJ0_isLatin1_aae02_3 (by decide) (fun c1 => absurd c1 (by decide)) (fun c1 => ?_)
  refine lv_aload_n hx hb dJ0_isLatin1_aae02_6 rfl (lv_at hl 0 rfl) ?_
  refine vk_getf hx hb (hw.2.2.2.2.2.2.1.1 w hw0).2.1 hw.2.2.2.1 hown (hts (.fieldLink RJ0 15 "java/lang/String" "coder" "B") (by decide +kernel)) (fun _ h => h) dJ0_isLatin1_aae02_7 ?_
  refine lv_if_ne (tgt := 17) hx hb dJ0_isLatin1_aae02_10 (by decide) (fun c2 => absurd rfl c2) (fun c2 => ?_)
  refine lv_iconst (v := (1 : Int32)) hx hb dJ0_isLatin1_aae02_13 (by decide) ?_
  refine lv_goto (tgt := 18) hx hb dJ0_isLatin1_aae02_14 (by decide) ?_
  exact q_zret h C0 hr rfl hlk hw dJ0_isLatin1_aae02_18
theorem eJ0_coder_7d493 : yJ0_coder_7d493.cls = RJ0 ∧ yJ0_coder_7d493.cls ≠ "java/lang/invoke/MethodHandle" ∧ yJ0_coder_7d493.cls ≠ "java/lang/invoke/VarHandle" ∧ (parseMethodDescriptor yJ0_coder_7d493.desc).map (fun d => d.parameters.length) = some 0 := by decide +kernel
theorem eJ0_isLatin1_aae02 : yJ0_isLatin1_aae02.cls = RJ0 ∧ yJ0_isLatin1_aae02.cls ≠ "java/lang/invoke/MethodHandle" ∧ yJ0_isLatin1_aae02.cls ≠ "java/lang/invoke/VarHandle" ∧ (parseMethodDescriptor yJ0_isLatin1_aae02.desc).map (fun d => d.parameters.length) = some 0 := by decide +kernel
theorem eJ1_charAt_3b067 : yJ1_charAt_3b067.cls ≠ "java/lang/invoke/MethodHandle" ∧ yJ1_charAt_3b067.cls ≠ "java/lang/invoke/VarHandle" ∧ (parseMethodDescriptor yJ1_charAt_3b067.desc).map (fun d => d.parameters.length) = some 2 := by decide +kernel
theorem eJ0_checkIndex_df160 : yJ0_checkIndex_df160.cls ≠ "java/lang/invoke/MethodHandle" ∧ yJ0_checkIndex_df160.cls ≠ "java/lang/invoke/VarHandle" ∧ (parseMethodDescriptor yJ0_checkIndex_df160.desc).map (fun d => d.parameters.length) = some 2 := by decide +kernel
theorem eJ3_checkIndex_8e157 : yJ3_checkIndex_8e157.cls ≠ "java/lang/invoke/MethodHandle" ∧ yJ3_checkIndex_8e157.cls ≠ "java/lang/invoke/VarHandle" ∧ (parseMethodDescriptor yJ3_checkIndex_8e157.desc).map (fun d => d.parameters.length) = some 3 := by decide +kernel
theorem q_len_sr {w : Nat} (hw : w < 9) : q_sr (nI (q_len.getD w 0)) 0 = nI (q_len.getD w 0) := by
  revert w
  decide +kernel
set_option maxHeartbeats 4000000 in
set_option maxRecDepth 100000 in
theorem kJ0_length_8abf5 {w : Nat} (hw0 : w < 9) {σ : q_M} {out : Int32 × q_M} (h : fJ0_length_8abf5 w σ = some out) : q_Mi l g yJ0_length_8abf5 wsJ0_length_8abf5 { frames := 1, cells := 0, slots := 0, locals := 20 } [.ref (g.2.2.2.2.2.1 w)] σ out := by
  refine q_Mi_of (cc := cJ0_length_8abf5) (maxL := 1) (ret := some .int) (by decide) rfl (Nat.le_of_ble_eq_true rfl) ?_
  intro p e s m below meth c ls C0 hr hlk hl hw
  obtain ⟨hx, hb, hml, hown, hts⟩ := id C0
  replace hl : lv_has ls 1 [(0, .ref (g.2.2.2.2.2.1 w))] := hl
  refine lv_aload_n hx hb dJ0_length_8abf5_0 rfl (lv_at hl 0 rfl) ?_
  refine vk_getf hx hb (hw.2.2.2.2.2.2.1.1 w hw0).2.2.1 hw.2.2.2.1 hown (hts (.fieldLink RJ0 9 "java/lang/String" "value" "[B") (by decide +kernel)) (fun _ h => h) dJ0_length_8abf5_1 ?_
  refine va_tlen (v := nI (q_len.getD w 0)) hx hb (hw.2.2.2.2.2.2.1.1 w hw0).2.2.2 hw.2.2.2.1 rfl dJ0_length_8abf5_4 ?_
  refine lv_aload_n hx hb dJ0_length_8abf5_5 rfl (lv_at hl 0 rfl) ?_
  refine q_calli (out := (0, σ)) hw (va_runV (As := []) (rest := [.int (nI (q_len.getD w 0))]) C0 (kJ0_coder_7d493 hw0 rfl _) (cwV 0 hts gJ0_length_8abf5_J0_coder_7d493 rfl rfl rfl eJ0_coder_7d493 ⟨(Nat.le_of_ble_eq_true rfl), (Nat.le_of_ble_eq_true rfl)⟩) ⟨q_blind, vk_recv hw.2.2.2.2.2.2.1 hw0 hw.2.2.2.1, q_pre hw⟩ rfl rfl hl.1 rfl (lv_room (Nat.le_of_ble_eq_true rfl)) dJ0_length_8abf5_6 ⟨Nat.zero_le _, Nat.zero_le _⟩) (fun H locs hw => ?_)
  refine q_ishr (v := nI (q_len.getD w 0)) C0 dJ0_length_8abf5_9 (q_len_sr hw0) ?_
  exact q_iret h C0 hr hlk hw dJ0_length_8abf5_10
set_option maxHeartbeats 4000000 in
set_option maxRecDepth 100000 in
theorem kJ3_checkIndex_8e157 {i n : Int32} {v : Value} (hv : v = .null ∨ ∃ t, v = .ref t) {σ : q_M} {out : Int32 × q_M} (h : fJ3_checkIndex_8e157 i n σ = some out) : q_Mi l g yJ3_checkIndex_8e157 wsJ3_checkIndex_8e157 { frames := 0, cells := 0, slots := 0, locals := 0 } [.int i, .int n, v] σ out := by
  refine q_Mi_of (cc := cJ3_checkIndex_8e157) (maxL := 3) (ret := some .int) (by decide) rfl (by rcases hv with rfl | ⟨t, rfl⟩ <;> exact Nat.le_of_ble_eq_true rfl) ?_
  intro p e s m below meth c ls C0 hr hlk hl hw
  obtain ⟨hx, hb, hml, hown, hts⟩ := id C0
  replace hl : lv_has ls 3 [(0, .int i), (1, .int n), (2, v)] := hl
  unfold fJ3_checkIndex_8e157 at h
  obtain ⟨⟨b1, b2⟩, h⟩ := q_if h
  refine lv_iload_n hx hb dJ3_checkIndex_8e157_0 rfl (lv_at hl 0 rfl) ?_
  refine lv_if_lt (tgt := 9) hx hb dJ3_checkIndex_8e157_1 (by decide) (fun c1 => absurd c1 b1) (fun c1 => ?_)
  refine lv_iload_n hx hb dJ3_checkIndex_8e157_4 rfl (lv_at hl 0 rfl) ?_
  refine lv_iload_n hx hb dJ3_checkIndex_8e157_5 rfl (lv_at hl 1 rfl) ?_
  refine lv_icmp_lt (tgt := 16) hx hb dJ3_checkIndex_8e157_6 (by decide) (fun c1 => ?_) (fun c1 => absurd b2 c1)
  refine lv_iload_n hx hb dJ3_checkIndex_8e157_16 rfl (lv_at hl 0 rfl) ?_
  exact q_iret h C0 hr hlk hw dJ3_checkIndex_8e157_17
set_option maxHeartbeats 4000000 in
set_option maxRecDepth 100000 in
theorem kJ0_checkIndex_df160 {i n : Int32} {σ : q_M} {out : q_M} (h : fJ0_checkIndex_df160 i n σ = some out) : q_Mv l g yJ0_checkIndex_df160 wsJ0_checkIndex_df160 { frames := 1, cells := 0, slots := 0, locals := 22 } [.int i, .int n] σ out := by
  refine q_Mv_of (cc := cJ0_checkIndex_df160) (maxL := 2) (ret := none) (by decide) rfl (Nat.le_of_ble_eq_true rfl) ?_
  intro p e s m below meth c ls C0 hr hlk hl hw
  obtain ⟨hx, hb, hml, hown, hts⟩ := id C0
  replace hl : lv_has ls 2 [(0, .int i), (1, .int n)] := hl
  unfold fJ0_checkIndex_df160 at h
  obtain ⟨b1, h⟩ := q_if h
  refine lv_iload_n hx hb dJ0_checkIndex_df160_0 rfl (lv_at hl 0 rfl) ?_
  refine lv_iload_n hx hb dJ0_checkIndex_df160_1 rfl (lv_at hl 1 rfl) ?_
  have go : ∀ v : Value, (v = .null ∨ ∃ t, v = .ref t) → W p l e { frames := 1, cells := 0, slots := 0, locals := 22 } s m [.int i, .int n].toArray below meth c s.heap [] 0 0 (MQ below (q_Rv g (q_A g s.heap.size) out) [.int i, .int n].toArray s 0 0 (q_A g s.heap.size)) (F0 m 5 ls [v, .int n, .int i]) := by
    intro v hv
    refine q_calli (out := (i, σ)) hw (va_runS (As := [.int i, .int n, v]) (rest := []) C0 (kJ3_checkIndex_8e157 hv (by unfold fJ3_checkIndex_8e157; rw [if_pos b1]) _) (va_cwS 3 hts gJ0_checkIndex_df160_J3_checkIndex_8e157 rfl rfl rfl eJ3_checkIndex_8e157 ⟨(Nat.le_of_ble_eq_true rfl), (Nat.le_of_ble_eq_true rfl)⟩) ⟨q_blind, q_pre hw⟩ rfl rfl hl.1 rfl (lv_room (Nat.le_of_ble_eq_true rfl)) dJ0_checkIndex_df160_5 ⟨Nat.zero_le _, Nat.zero_le _⟩) (fun H locs hw => ?_)
    refine lv_pop hx hb dJ0_checkIndex_df160_8 rfl ?_
    exact q_vret h C0 hr hlk hw dJ0_checkIndex_df160_9
  rcases hw.2.2.2.2.2.2.2.2 with hz | ⟨t, hz⟩
  · exact va_gets hx hb hz hw.2.2.2.1 hown (hts (.fieldLink RJ0 1053 "jdk/internal/util/Preconditions" "SIOOBE_FORMATTER" "Ljava/util/function/BiFunction;") (by decide +kernel)) (fun _ h => h) dJ0_checkIndex_df160_2 (go _ (Or.inl rfl))
  · exact va_gets hx hb hz hw.2.2.2.1 hown (hts (.fieldLink RJ0 1053 "jdk/internal/util/Preconditions" "SIOOBE_FORMATTER" "Ljava/util/function/BiFunction;") (by decide +kernel)) (fun _ h => h) dJ0_checkIndex_df160_2 (go _ (Or.inr ⟨t, rfl⟩))
theorem q_len_lt {w : Nat} {i : Int32} (hw : w < 9) (h : ¬ (i < 0 ∨ q_len.getD w 0 ≤ i.toNatClampNeg)) : ¬ i < 0 ∧ i < nI (q_len.getD w 0) := by
  have hl : q_len.getD w 0 < 2 ^ 31 := (by decide +kernel : ∀ w, w < 9 → q_len.getD w 0 < 2 ^ 31) w hw
  obtain ⟨j, hj, rfl⟩ := vp_in_of h hl
  exact ⟨nI_pos (by omega), nI_lt hj hl⟩
set_option maxHeartbeats 4000000 in
set_option maxRecDepth 100000 in
theorem kJ1_charAt_3b067 {w : Nat} {i : Int32} (hw0 : w < 9) {σ : q_M} {out : Int32 × q_M} (h : fJ1_charAt_3b067 w i σ = some out) : q_Mi l g yJ1_charAt_3b067 wsJ1_charAt_3b067 { frames := 2, cells := 0, slots := 0, locals := 43 } [.ref (g.2.2.2.2.2.2 w), .int i] σ out := by
  refine q_Mi_of (cc := cJ1_charAt_3b067) (maxL := 2) (ret := some .char) (by decide) rfl (Nat.le_of_ble_eq_true rfl) ?_
  intro p e s m below meth c ls C0 hr hlk hl hw
  obtain ⟨hx, hb, hml, hown, hts⟩ := id C0
  replace hl : lv_has ls 2 [(0, .ref (g.2.2.2.2.2.2 w)), (1, .int i)] := hl
  unfold fJ1_charAt_3b067 at h
  obtain ⟨b1, h⟩ := q_if h
  refine lv_iload_n hx hb dJ1_charAt_3b067_0 rfl (lv_at hl 1 rfl) ?_
  refine lv_aload_n hx hb dJ1_charAt_3b067_1 rfl (lv_at hl 0 rfl) ?_
  refine va_tlen (v := nI (q_len.getD w 0)) hx hb (hw.2.2.2.2.2.2.1.1 w hw0).2.2.2 hw.2.2.2.1 rfl dJ1_charAt_3b067_2 ?_
  refine q_callv (out := σ) hw (va_runS (As := [.int i, .int (nI (q_len.getD w 0))]) (rest := []) C0 (kJ0_checkIndex_df160 (by unfold fJ0_checkIndex_df160; rw [if_pos (q_len_lt hw0 b1)]) _) (va_cwS 2 hts gJ1_charAt_3b067_J0_checkIndex_df160 rfl rfl rfl eJ0_checkIndex_df160 ⟨(Nat.le_of_ble_eq_true rfl), (Nat.le_of_ble_eq_true rfl)⟩) ⟨q_blind, q_pre hw⟩ rfl rfl hl.1 rfl (lv_room (Nat.le_of_ble_eq_true rfl)) dJ1_charAt_3b067_3 ⟨Nat.zero_le _, Nat.zero_le _⟩) (fun H locs hw => ?_)
  refine lv_aload_n hx hb dJ1_charAt_3b067_6 rfl (lv_at hl 0 rfl) ?_
  refine lv_iload_n hx hb dJ1_charAt_3b067_7 rfl (lv_at hl 1 rfl) ?_
  refine va_tb (v := .int ((q_byt.getD w []).getD i.toNatClampNeg 0)) hx hb (hw.2.2.2.2.2.2.1.1 w hw0).2.2.2 hw.2.2.2.1 b1 rfl dJ1_charAt_3b067_8 ?_
  refine lv_sipush (v := (255 : Int32)) hx hb dJ1_charAt_3b067_9 (by decide) ?_
  refine lv_iand hx hb dJ1_charAt_3b067_12 ?_
  refine lv_i2c (v := q_chr w i) hx hb dJ1_charAt_3b067_13 (sc_c2 _) ?_
  exact q_zret h C0 hr (sc_nar _) hlk hw dJ1_charAt_3b067_14
set_option maxHeartbeats 4000000 in
set_option maxRecDepth 100000 in
theorem kJ0_charAt_5068e {w : Nat} {i : Int32} (hw0 : w < 9) {σ : q_M} {out : Int32 × q_M} (h : fJ0_charAt_5068e w i σ = some out) : q_Mi l g yJ0_charAt_5068e wsJ0_charAt_5068e { frames := 3, cells := 0, slots := 0, locals := 64 } [.ref (g.2.2.2.2.2.1 w), .int i] σ out := by
  refine q_Mi_of (cc := cJ0_charAt_5068e) (maxL := 2) (ret := some .char) (by decide) rfl (Nat.le_of_ble_eq_true rfl) ?_
  intro p e s m below meth c ls C0 hr hlk hl hw
  obtain ⟨hx, hb, hml, hown, hts⟩ := id C0
  replace hl : lv_has ls 2 [(0, .ref (g.2.2.2.2.2.1 w)), (1, .int i)] := hl
  unfold fJ0_charAt_5068e at h
  refine lv_aload_n hx hb dJ0_charAt_5068e_0 rfl (lv_at hl 0 rfl) ?_
  refine q_calli (out := (1, σ)) hw (va_runV (As := []) (rest := []) C0 (kJ0_isLatin1_aae02 hw0 rfl _) (cwV 0 hts gJ0_charAt_5068e_J0_isLatin1_aae02 rfl rfl rfl eJ0_isLatin1_aae02 ⟨(Nat.le_of_ble_eq_true rfl), (Nat.le_of_ble_eq_true rfl)⟩) ⟨q_blind, vk_recv hw.2.2.2.2.2.2.1 hw0 hw.2.2.2.1, q_pre hw⟩ rfl rfl hl.1 rfl (lv_room (Nat.le_of_ble_eq_true rfl)) dJ0_charAt_5068e_1 ⟨Nat.zero_le _, Nat.zero_le _⟩) (fun H locs hw => ?_)
  refine lv_if_eq (tgt := 16) hx hb dJ0_charAt_5068e_4 (by decide) (fun c1 => absurd c1 (show ¬ (1 : Int32) = 0 by decide)) (fun c1 => ?_)
  refine lv_aload_n hx hb dJ0_charAt_5068e_7 rfl (lv_at hl 0 rfl) ?_
  refine vk_getf hx hb (hw.2.2.2.2.2.2.1.1 w hw0).2.2.1 hw.2.2.2.1 hown (hts (.fieldLink RJ0 9 "java/lang/String" "value" "[B") (by decide +kernel)) (fun _ h => h) dJ0_charAt_5068e_8 ?_
  refine lv_iload_n hx hb dJ0_charAt_5068e_11 rfl (lv_at hl 1 rfl) ?_
  refine q_calli (out := out) hw (va_runS (As := [.ref (g.2.2.2.2.2.2 w), .int i]) (rest := []) C0 (kJ1_charAt_3b067 hw0 h _) (va_cwS 2 hts gJ0_charAt_5068e_J1_charAt_3b067 rfl rfl rfl eJ1_charAt_3b067 ⟨(Nat.le_of_ble_eq_true rfl), (Nat.le_of_ble_eq_true rfl)⟩) ⟨q_blind, q_pre hw⟩ rfl rfl hl.1 rfl (lv_room (Nat.le_of_ble_eq_true rfl)) dJ0_charAt_5068e_12 ⟨Nat.zero_le _, Nat.zero_le _⟩) (fun H locs hw => ?_)
  have ho : out.1 = q_chr w i := by
    unfold fJ1_charAt_3b067 at h
    obtain ⟨-, h⟩ := q_if h
    cases h
    rfl
  exact q_zret (v := out.1) (σ := out.2) rfl C0 hr (by rw [ho]; exact sc_nar _) hlk hw dJ0_charAt_5068e_15
end
