/-! A Block alone: its four cells. -/
def bKs : List Nat := [2, 3, 4, 5]
def bK (k : Nat) : Nat := bKs.getD k 99
def bE (cI cJ : ClassId) (ad : Nat → Nat) (k : Nat) (f : Nat → Int32) (h : Nat → Int64) : va_E := match bK k with
  | 2 => .inr (0, [.int (f 0), .int (f 1), .long (h 2), .ref (ad (k + 1)), .ref (ad (k + 2)), .ref (ad (k + 3))])
  | 3 => .inl (cI, 3, .inl f)
  | 4 => .inl (cJ, 12, .inr (.inl h))
  | 5 => .inl (cJ, 6, .inr (.inl h))
  | _ => .inr (99, [])
abbrev tyX_ (cI cJ cS : ClassId) : List (ClassId × FieldType) := [(cI, .int), (cJ, .long), (cS, .object "MouldThatComesOff$Shelf")]
abbrev gB (D : va_G) (cI cJ cS : ClassId) (ad adK adV : Nat → Nat) : q_G := (D, tyX_ cI cJ cS, 4, ad, bE cI cJ ad, (adK, adV))
theorem bN {k c : Nat} (h : bK k = c) (hc : c < 99) : k < 4 := by
  rcases Nat.lt_or_ge k 4 with q | q
  · exact q
  · have q2 : bKs[k]? = none := List.getElem?_eq_none (show bKs.length ≤ k from q)
    simp [bK, List.getD, q2] at h
    omega
section
variable {D : va_G} {cI cJ cS : ClassId} {ad adK adV : Nat → Nat}
theorem bN_2 {k : Nat} (h : bK k = 2) : k < (gB D cI cJ cS ad adK adV).2.2.1 := bN h (by decide)
theorem bE_2 {k : Nat} (h0 : bK k = 2) : ∀ f h, (gB D cI cJ cS ad adK adV).2.2.2.2.1 k f h = .inr (0, [.int (f 0), .int (f 1), .long (h 2), .ref (ad (k + 1)), .ref (ad (k + 2)), .ref (ad (k + 3))]) := by
  intro f h
  show bE cI cJ ad k f h = _
  simp only [bE, h0]
theorem bN_3 {k : Nat} (h : bK k = 3) : k < (gB D cI cJ cS ad adK adV).2.2.1 := bN h (by decide)
theorem bE_3 {k : Nat} (h0 : bK k = 3) : ∀ f h, (gB D cI cJ cS ad adK adV).2.2.2.2.1 k f h = .inl (cI, 3, .inl f) := by
  intro f h
  show bE cI cJ ad k f h = _
  simp only [bE, h0]
theorem bN_4 {k : Nat} (h : bK k = 4) : k < (gB D cI cJ cS ad adK adV).2.2.1 := bN h (by decide)
theorem bE_4 {k : Nat} (h0 : bK k = 4) : ∀ f h, (gB D cI cJ cS ad adK adV).2.2.2.2.1 k f h = .inl (cJ, 12, .inr (.inl h)) := by
  intro f h
  show bE cI cJ ad k f h = _
  simp only [bE, h0]
theorem bN_5 {k : Nat} (h : bK k = 5) : k < (gB D cI cJ cS ad adK adV).2.2.1 := bN h (by decide)
theorem bE_5 {k : Nat} (h0 : bK k = 5) : ∀ f h, (gB D cI cJ cS ad adK adV).2.2.2.2.1 k f h = .inl (cJ, 6, .inr (.inl h)) := by
  intro f h
  show bE cI cJ ad k f h = _
  simp only [bE, h0]
end
theorem bD_2_1 {k : Nat} (h : bK k = 2) : bK (k + 1) = 3 := (by decide +kernel : ∀ k, k < 4 → bK k = 2 → bK (k + 1) = 3) k (bN h (by decide)) h
theorem bD_2_2 {k : Nat} (h : bK k = 2) : bK (k + 2) = 4 := (by decide +kernel : ∀ k, k < 4 → bK k = 2 → bK (k + 2) = 4) k (bN h (by decide)) h
theorem bD_2_3 {k : Nat} (h : bK k = 2) : bK (k + 3) = 5 := (by decide +kernel : ∀ k, k < 4 → bK k = 2 → bK (k + 3) = 5) k (bN h (by decide)) h
section
variable {p : Program} {l : Launch} {e : Env} {R : Room} {s : State} {m : MethodId} {args : Array Value} {below : List Frame} {meth : Method} {c : Code} {H : Heap} {locs : List Loc} {cells slots : Nat} {Q : State → Prop}
variable {cc : ByteArray} {nL index pc : Nat} {Ts : List Cond} {own : String} {rest : List Value} {ls : Array Slot} {A : Nat → Prop} {σ : q_M} {D : va_G} {cI cJ cS : ClassId} {ad adK adV : Nat → Nat} {k : Nat}
theorem gb_X0_0 (C0 : CallFix p m c cc nL s args Ts own) (hw : q_H (gB D cI cJ cS ad adK adV) A s σ H locs) (hk : bK k = 2) (hin : ∀ w ∈ wsX00, w ∈ Ts) (hlink : Cond.fieldLink own index "MouldThatComesOff$Block" "n" "I" ∈ Ts) (hdg : decode cc pc = .ok (.getfield index, 3))
    (kk : W p l e R s m args below meth c H locs cells slots Q (F0 m (pc + 3) ls (.int (σ.1 k 0) :: rest))) : W p l e R s m args below meth c H locs cells slots Q (F0 m pc ls (.ref (ad k) :: rest)) :=
  q_get C0 hw (bN_2 hk) (bE_2 hk _ _) (j := 0) rfl hin (by decide) hlink rfl rfl hdg kk
theorem pb_X0_0 {x : Int32} (C0 : CallFix p m c cc nL s args Ts own) (hw : q_H (gB D cI cJ cS ad adK adV) A s σ H locs) (hk : bK k = 2) (hin : ∀ w ∈ wsX00, w ∈ Ts) (hlink : Cond.fieldLink own index "MouldThatComesOff$Block" "n" "I" ∈ Ts) (hdg : decode cc pc = .ok (.putfield index, 3))
    (kk : ∀ (σ1 : q_M) (H1 : Heap) (locs1 : List Loc), σ1 = q_I σ k 0 x → q_H (gB D cI cJ cS ad adK adV) A s σ1 H1 locs1 → W p l e R s m args below meth c H1 locs1 cells slots Q (F0 m (pc + 3) ls rest)) : W p l e R s m args below meth c H locs cells slots Q (F0 m pc ls (.int x :: .ref (ad k) :: rest)) :=
  q_put (σ' := q_I σ k 0 x) (ty := .int) C0 hw (bN_2 hk) (bE_2 hk _ _) (by rw [bE_2 hk]; simp [q_I]) (fun a h => ⟨q_I_off h, rfl⟩) (j := 0) rfl hin tyX0 tyX0_ok nmX0 (by decide) hlink rfl rfl (by decide +kernel) rfl rfl (by simp) hdg (fun H1 locs1 hw => kk _ H1 locs1 rfl hw)
theorem gb_X0_1 (C0 : CallFix p m c cc nL s args Ts own) (hw : q_H (gB D cI cJ cS ad adK adV) A s σ H locs) (hk : bK k = 2) (hin : ∀ w ∈ wsX00, w ∈ Ts) (hlink : Cond.fieldLink own index "MouldThatComesOff$Block" "count" "I" ∈ Ts) (hdg : decode cc pc = .ok (.getfield index, 3))
    (kk : W p l e R s m args below meth c H locs cells slots Q (F0 m (pc + 3) ls (.int (σ.1 k 1) :: rest))) : W p l e R s m args below meth c H locs cells slots Q (F0 m pc ls (.ref (ad k) :: rest)) :=
  q_get C0 hw (bN_2 hk) (bE_2 hk _ _) (j := 1) rfl hin (by decide) hlink rfl rfl hdg kk
theorem pb_X0_1 {x : Int32} (C0 : CallFix p m c cc nL s args Ts own) (hw : q_H (gB D cI cJ cS ad adK adV) A s σ H locs) (hk : bK k = 2) (hin : ∀ w ∈ wsX00, w ∈ Ts) (hlink : Cond.fieldLink own index "MouldThatComesOff$Block" "count" "I" ∈ Ts) (hdg : decode cc pc = .ok (.putfield index, 3))
    (kk : ∀ (σ1 : q_M) (H1 : Heap) (locs1 : List Loc), σ1 = q_I σ k 1 x → q_H (gB D cI cJ cS ad adK adV) A s σ1 H1 locs1 → W p l e R s m args below meth c H1 locs1 cells slots Q (F0 m (pc + 3) ls rest)) : W p l e R s m args below meth c H locs cells slots Q (F0 m pc ls (.int x :: .ref (ad k) :: rest)) :=
  q_put (σ' := q_I σ k 1 x) (ty := .int) C0 hw (bN_2 hk) (bE_2 hk _ _) (by rw [bE_2 hk]; simp [q_I]) (fun a h => ⟨q_I_off h, rfl⟩) (j := 1) rfl hin tyX0 tyX0_ok nmX0 (by decide) hlink rfl rfl (by decide +kernel) rfl rfl (by simp) hdg (fun H1 locs1 hw => kk _ H1 locs1 rfl hw)
theorem gb_X0_2 (C0 : CallFix p m c cc nL s args Ts own) (hw : q_H (gB D cI cJ cS ad adK adV) A s σ H locs) (hk : bK k = 2) (hin : ∀ w ∈ wsX00, w ∈ Ts) (hlink : Cond.fieldLink own index "MouldThatComesOff$Block" "all" "J" ∈ Ts) (hdg : decode cc pc = .ok (.getfield index, 3))
    (kk : W p l e R s m args below meth c H locs cells slots Q (F0 m (pc + 3) ls (.long (σ.2 k 2) :: rest))) : W p l e R s m args below meth c H locs cells slots Q (F0 m pc ls (.ref (ad k) :: rest)) :=
  q_get C0 hw (bN_2 hk) (bE_2 hk _ _) (j := 2) rfl hin (by decide) hlink rfl rfl hdg kk
theorem pb_X0_2 {x : Int64} (C0 : CallFix p m c cc nL s args Ts own) (hw : q_H (gB D cI cJ cS ad adK adV) A s σ H locs) (hk : bK k = 2) (hin : ∀ w ∈ wsX00, w ∈ Ts) (hlink : Cond.fieldLink own index "MouldThatComesOff$Block" "all" "J" ∈ Ts) (hdg : decode cc pc = .ok (.putfield index, 3))
    (kk : ∀ (σ1 : q_M) (H1 : Heap) (locs1 : List Loc), σ1 = q_L σ k 2 x → q_H (gB D cI cJ cS ad adK adV) A s σ1 H1 locs1 → W p l e R s m args below meth c H1 locs1 cells slots Q (F0 m (pc + 3) ls rest)) : W p l e R s m args below meth c H locs cells slots Q (F0 m pc ls (.long x :: .ref (ad k) :: rest)) :=
  q_put (σ' := q_L σ k 2 x) (ty := .long) C0 hw (bN_2 hk) (bE_2 hk _ _) (by rw [bE_2 hk]; simp [q_L]) (fun a h => ⟨rfl, q_L_off h⟩) (j := 2) rfl hin tyX0 tyX0_ok nmX0 (by decide) hlink rfl rfl (by decide +kernel) rfl rfl (by simp) hdg (fun H1 locs1 hw => kk _ H1 locs1 rfl hw)
theorem gb_X0_3 (C0 : CallFix p m c cc nL s args Ts own) (hw : q_H (gB D cI cJ cS ad adK adV) A s σ H locs) (hk : bK k = 2) (hin : ∀ w ∈ wsX00, w ∈ Ts) (hlink : Cond.fieldLink own index "MouldThatComesOff$Block" "strides" "[I" ∈ Ts) (hdg : decode cc pc = .ok (.getfield index, 3))
    (kk : W p l e R s m args below meth c H locs cells slots Q (F0 m (pc + 3) ls (.ref (ad (k + 1)) :: rest))) : W p l e R s m args below meth c H locs cells slots Q (F0 m pc ls (.ref (ad k) :: rest)) :=
  q_get C0 hw (bN_2 hk) (bE_2 hk _ _) (j := 3) rfl hin (by decide) hlink rfl rfl hdg kk
theorem gb_X0_4 (C0 : CallFix p m c cc nL s args Ts own) (hw : q_H (gB D cI cJ cS ad adK adV) A s σ H locs) (hk : bK k = 2) (hin : ∀ w ∈ wsX00, w ∈ Ts) (hlink : Cond.fieldLink own index "MouldThatComesOff$Block" "layers" "[J" ∈ Ts) (hdg : decode cc pc = .ok (.getfield index, 3))
    (kk : W p l e R s m args below meth c H locs cells slots Q (F0 m (pc + 3) ls (.ref (ad (k + 2)) :: rest))) : W p l e R s m args below meth c H locs cells slots Q (F0 m pc ls (.ref (ad k) :: rest)) :=
  q_get C0 hw (bN_2 hk) (bE_2 hk _ _) (j := 4) rfl hin (by decide) hlink rfl rfl hdg kk
theorem gb_X0_5 (C0 : CallFix p m c cc nL s args Ts own) (hw : q_H (gB D cI cJ cS ad adK adV) A s σ H locs) (hk : bK k = 2) (hin : ∀ w ∈ wsX00, w ∈ Ts) (hlink : Cond.fieldLink own index "MouldThatComesOff$Block" "ends" "[J" ∈ Ts) (hdg : decode cc pc = .ok (.getfield index, 3))
    (kk : W p l e R s m args below meth c H locs cells slots Q (F0 m (pc + 3) ls (.ref (ad (k + 3)) :: rest))) : W p l e R s m args below meth c H locs cells slots Q (F0 m pc ls (.ref (ad k) :: rest)) :=
  q_get C0 hw (bN_2 hk) (bE_2 hk _ _) (j := 5) rfl hin (by decide) hlink rfl rfl hdg kk
end
section
variable {p : Program} {l : Launch} {e : Env} {s : State} {m : MethodId} {args : Array Value} {below : List Frame} {meth : Method} {c : Code} {D : va_G} {cI cJ cS : ClassId} {ad adK adV : Nat → Nat}


set_option maxHeartbeats 4000000 in
set_option maxRecDepth 100000 in
theorem kB0_layer {k : Nat} {p1 : Int32} {p2 : Int32} (hk : bK k = 2) {σ : q_M} {out : Int64 × q_M} (h : fX0_layer k p1 p2 σ = some out) : q_Ml l (gB D cI cJ cS ad adK adV) yX0_layer wsX0_layer { frames := 0, cells := 0, slots := 0, locals := 0 } [.ref (ad k), .int p1, .int p2] σ out := by
  refine q_Ml_of (cc := cX0_layer) (maxL := 3) (ret := (some .long)) (by decide) rfl (Nat.le_of_ble_eq_true rfl) ?_
  intro p e s m below meth c ls C0 hr hlk hl hw
  obtain ⟨hx, hb, hml, hown, hts⟩ := id C0
  replace hl : lv_has ls 3 [(0, .ref (ad k)), (1, .int p1), (2, .int p2)] := hl
  unfold fX0_layer at h
  refine lv_aload_n hx hb dX0_layer_0 rfl (lv_at hl 0 rfl) ?_
  refine gb_X0_4 C0 hw hk iX0_layer_X0 (by decide +kernel) dX0_layer_1 ?_
  refine lv_iconst (v := (4 : Int32)) hx hb dX0_layer_4 (by decide) ?_
  refine lv_iload_n hx hb dX0_layer_5 rfl (lv_at hl 1 rfl) ?_
  refine lv_imul hx hb dX0_layer_6 ?_
  refine lv_iload_n hx hb dX0_layer_7 rfl (lv_at hl 2 rfl) ?_
  refine lv_iadd hx hb dX0_layer_8 ?_
  obtain ⟨b1, h⟩ := q_if h
  refine q_lald (t0 := 1) C0 hw (bN_4 (bD_2_2 hk)) (bE_4 (bD_2_2 hk)) rfl b1 dX0_layer_9 ?_
  exact q_lret h C0 hr hlk hw dX0_layer_10

set_option maxHeartbeats 4000000 in
set_option maxRecDepth 100000 in
theorem tB0_become_c164 {k : Nat} {p1 : Int32} (hk : bK k = 2) (C0 : CallFix p m c cX0_become 7 s args wsX0_become RX0) (hr : meth.sig.returnType = none) (hlk : meth.locks = false) {out : q_M}  : ∀ n : Nat, ∀ (v4 : Int32) (σ : q_M) (H : Heap) (locs : List Loc) (ls : Array Slot), q_H (gB D cI cJ cS ad adK adV) (q_A (gB D cI cJ cS ad adK adV) s.heap.size) s σ H locs → lv_has ls 7 [(0, .ref (ad k)), (1, .int p1), (4, .int v4)] → fX0_become_c164 k p1 n v4 σ = some out → W p l e { frames := 1, cells := 0, slots := 0, locals := 24 } s m args below meth c H locs 0 0 (MQ below (q_Rv (gB D cI cJ cS ad adK adV) (q_A (gB D cI cJ cS ad adK adV) s.heap.size) out) args s 0 0 (q_A (gB D cI cJ cS ad adK adV) s.heap.size)) (F0 m 164 ls []) := by
  obtain ⟨hx, hb, hml, hown, hts⟩ := id C0
  intro n
  induction n with
  | zero =>
    intro v4 σ H locs ls  hw hl h
    cases (show (none : Option (q_M)) = some out from h)
  | succ n hrec164 =>
    intro v4 σ H locs ls  hw hl h
    replace h : fX0_become_c164b k p1 (fX0_become_c164 k p1 n) v4 σ = some out := h
    unfold fX0_become_c164b at h
    refine lv_iload hx hb dX0_become_164 (lv_at hl 2 rfl) ?_
    refine lv_iconst (v := (3 : Int32)) hx hb dX0_become_166 (by decide) ?_
    refine lv_icmp_ge (tgt := 212) hx hb dX0_become_167 (by decide) (fun c1 => ?_) (fun c1 => ?_)
    · replace h := q_t h c1
      exact q_vret h C0 hr hlk hw dX0_become_212
    · replace h := q_f h c1
      refine lv_aload_n hx hb dX0_become_170 rfl (lv_at hl 0 rfl) ?_
      refine gb_X0_5 C0 hw hk iX0_become_X0 (by decide +kernel) dX0_become_171 ?_
      refine lv_iconst (v := (2 : Int32)) hx hb dX0_become_174 (by decide) ?_
      refine lv_iload hx hb dX0_become_175 (lv_at hl 2 rfl) ?_
      refine lv_imul hx hb dX0_become_177 ?_
      refine lv_aload_n hx hb dX0_become_178 rfl (lv_at hl 0 rfl) ?_
      refine lv_iload hx hb dX0_become_179 (lv_at hl 2 rfl) ?_
      refine lv_iload_n hx hb dX0_become_181 rfl (lv_at hl 1 rfl) ?_
      refine lv_iconst (v := (1 : Int32)) hx hb dX0_become_182 (by decide) ?_
      refine lv_isub hx hb dX0_become_183 ?_
      obtain ⟨o2, hco2, h⟩ := q_bind h
      refine q_calll hw (va_runV (As := [.int v4, .int (p1 - (1 : Int32))]) (rest := [.int ((2 : Int32) * v4), .ref (ad (k + 3))]) C0 (kB0_layer hk hco2 _) (cwV 2 hts gX0_become_X0_layer rfl rfl rfl eX0_layer ⟨(Nat.le_of_ble_eq_true rfl), (Nat.le_of_ble_eq_true rfl)⟩) ⟨q_blind, q_recv hw (bN_2 hk) (bE_2 hk) rfl, q_pre hw⟩ rfl rfl hl.1 rfl (lv_room (Nat.le_of_ble_eq_true rfl)) dX0_become_184 ⟨Nat.zero_le _, Nat.zero_le _⟩) (fun H locs hw => ?_)
      obtain ⟨b3, h⟩ := q_if h
      refine q_last (t0 := 1) C0 hw (bN_5 (bD_2_3 hk)) (bE_5 (bD_2_3 hk)) rfl b3 dX0_become_187 (fun σ4 H locs e_σ4 hw => ?_)
      replace h := q_let_at e_σ4 h
      refine lv_aload_n hx hb dX0_become_188 rfl (lv_at hl 0 rfl) ?_
      refine gb_X0_5 C0 hw hk iX0_become_X0 (by decide +kernel) dX0_become_189 ?_
      refine lv_iconst (v := (2 : Int32)) hx hb dX0_become_192 (by decide) ?_
      refine lv_iload hx hb dX0_become_193 (lv_at hl 2 rfl) ?_
      refine lv_imul hx hb dX0_become_195 ?_
      refine lv_iconst (v := (1 : Int32)) hx hb dX0_become_196 (by decide) ?_
      refine lv_iadd hx hb dX0_become_197 ?_
      refine lv_aload_n hx hb dX0_become_198 rfl (lv_at hl 0 rfl) ?_
      refine lv_iload hx hb dX0_become_199 (lv_at hl 2 rfl) ?_
      refine lv_iconst (v := (0 : Int32)) hx hb dX0_become_201 (by decide) ?_
      obtain ⟨o5, hco5, h⟩ := q_bind h
      refine q_calll hw (va_runV (As := [.int v4, .int (0 : Int32)]) (rest := [.int (((2 : Int32) * v4) + (1 : Int32)), .ref (ad (k + 3))]) C0 (kB0_layer hk hco5 _) (cwV 2 hts gX0_become_X0_layer rfl rfl rfl eX0_layer ⟨(Nat.le_of_ble_eq_true rfl), (Nat.le_of_ble_eq_true rfl)⟩) ⟨q_blind, q_recv hw (bN_2 hk) (bE_2 hk) rfl, q_pre hw⟩ rfl rfl hl.1 rfl (lv_room (Nat.le_of_ble_eq_true rfl)) dX0_become_202 ⟨Nat.zero_le _, Nat.zero_le _⟩) (fun H locs hw => ?_)
      obtain ⟨b6, h⟩ := q_if h
      refine q_last (t0 := 1) C0 hw (bN_5 (bD_2_3 hk)) (bE_5 (bD_2_3 hk)) rfl b6 dX0_become_205 (fun σ7 H locs e_σ7 hw => ?_)
      replace h := q_let_at e_σ7 h
      refine lv_iinc (v := (v4 + (1 : Int32))) (lv' := [(4, .int (v4 + (1 : Int32))), (0, .ref (ad k)), (1, .int p1)]) hx hb dX0_become_206 hl (k := 2) rfl rfl (by decide) rfl (fun ls hl => ?_)
      refine lv_goto (tgt := 164) hx hb dX0_become_209 (by decide) ?_
      exact hrec164 (v4 + (1 : Int32)) σ7 _ _ _ hw (lv_sub hl [1, 2, 0] rfl) h
set_option maxHeartbeats 4000000 in
set_option maxRecDepth 100000 in
theorem tB0_become_c95 {k : Nat} {p1 : Int32} {rec77 : Int64 → Int32 → q_M → Option (q_M)} {rec86 : Int64 → Int32 → Int32 → q_M → Option (q_M)} (hk : bK k = 2) (C0 : CallFix p m c cX0_become 7 s args wsX0_become RX0) (hr : meth.sig.returnType = none) (hlk : meth.locks = false) {out : q_M} (hrec77 : ∀ (v2 : Int64) (v4 : Int32) (σ : q_M) (H : Heap) (locs : List Loc) (ls : Array Slot), q_H (gB D cI cJ cS ad adK adV) (q_A (gB D cI cJ cS ad adK adV) s.heap.size) s σ H locs → lv_has ls 7 [(0, .ref (ad k)), (1, .int p1), (2, .long v2), (4, .int v4)] → rec77 v2 v4 σ = some out → W p l e { frames := 1, cells := 0, slots := 0, locals := 24 } s m args below meth c H locs 0 0 (MQ below (q_Rv (gB D cI cJ cS ad adK adV) (q_A (gB D cI cJ cS ad adK adV) s.heap.size) out) args s 0 0 (q_A (gB D cI cJ cS ad adK adV) s.heap.size)) (F0 m 77 ls [])) (hrec86 : ∀ (v2 : Int64) (v4 : Int32) (v5 : Int32) (σ : q_M) (H : Heap) (locs : List Loc) (ls : Array Slot), q_H (gB D cI cJ cS ad adK adV) (q_A (gB D cI cJ cS ad adK adV) s.heap.size) s σ H locs → lv_has ls 7 [(0, .ref (ad k)), (1, .int p1), (2, .long v2), (4, .int v4), (5, .int v5)] → rec86 v2 v4 v5 σ = some out → W p l e { frames := 1, cells := 0, slots := 0, locals := 24 } s m args below meth c H locs 0 0 (MQ below (q_Rv (gB D cI cJ cS ad adK adV) (q_A (gB D cI cJ cS ad adK adV) s.heap.size) out) args s 0 0 (q_A (gB D cI cJ cS ad adK adV) s.heap.size)) (F0 m 86 ls [])) : ∀ n : Nat, ∀ (v2 : Int64) (v4 : Int32) (v5 : Int32) (v6 : Int32) (σ : q_M) (H : Heap) (locs : List Loc) (ls : Array Slot), q_H (gB D cI cJ cS ad adK adV) (q_A (gB D cI cJ cS ad adK adV) s.heap.size) s σ H locs → lv_has ls 7 [(0, .ref (ad k)), (1, .int p1), (2, .long v2), (4, .int v4), (5, .int v5), (6, .int v6)] → fX0_become_c95 k p1 rec77 rec86 n v2 v4 v5 v6 σ = some out → W p l e { frames := 1, cells := 0, slots := 0, locals := 24 } s m args below meth c H locs 0 0 (MQ below (q_Rv (gB D cI cJ cS ad adK adV) (q_A (gB D cI cJ cS ad adK adV) s.heap.size) out) args s 0 0 (q_A (gB D cI cJ cS ad adK adV) s.heap.size)) (F0 m 95 ls []) := by
  obtain ⟨hx, hb, hml, hown, hts⟩ := id C0
  intro n
  induction n with
  | zero =>
    intro v2 v4 v5 v6 σ H locs ls  hw hl h
    cases (show (none : Option (q_M)) = some out from h)
  | succ n hrec95 =>
    intro v2 v4 v5 v6 σ H locs ls  hw hl h
    replace h : fX0_become_c95b k p1 rec77 rec86 (fX0_become_c95 k p1 rec77 rec86 n) v2 v4 v5 v6 σ = some out := h
    unfold fX0_become_c95b at h
    refine lv_iload hx hb dX0_become_95 (lv_at hl 5 rfl) ?_
    refine lv_iload_n hx hb dX0_become_97 rfl (lv_at hl 1 rfl) ?_
    refine lv_icmp_ge (tgt := 149) hx hb dX0_become_98 (by decide) (fun c1 => ?_) (fun c1 => ?_)
    · replace h := q_t h c1
      refine lv_iinc (v := (v5 + (1 : Int32))) (lv' := [(5, .int (v5 + (1 : Int32))), (0, .ref (ad k)), (1, .int p1), (2, .long v2), (4, .int v4), (6, .int v6)]) hx hb dX0_become_149 hl (k := 4) rfl rfl (by decide) rfl (fun ls hl => ?_)
      refine lv_goto (tgt := 86) hx hb dX0_become_152 (by decide) ?_
      exact hrec86 v2 v4 (v5 + (1 : Int32)) σ _ _ _ hw (lv_sub hl [1, 2, 3, 4, 0] rfl) h
    · replace h := q_f h c1
      refine lv_aload_n hx hb dX0_become_101 rfl (lv_at hl 0 rfl) ?_
      refine gb_X0_4 C0 hw hk iX0_become_X0 (by decide +kernel) dX0_become_102 ?_
      refine lv_iload hx hb dX0_become_105 (lv_at hl 5 rfl) ?_
      refine lv_dup2_11 hx hb dX0_become_107 rfl rfl ?_
      obtain ⟨b2, h⟩ := q_if h
      refine q_lald (t0 := 1) C0 hw (bN_4 (bD_2_2 hk)) (bE_4 (bD_2_2 hk)) rfl b2 dX0_become_108 ?_
      refine lv_lload_n hx hb dX0_become_109 rfl (lv_at hl 2 rfl) ?_
      refine lv_lor hx hb dX0_become_110 ?_
      obtain ⟨b3, h⟩ := q_if h
      refine q_last (t0 := 1) C0 hw (bN_4 (bD_2_2 hk)) (bE_4 (bD_2_2 hk)) rfl b3 dX0_become_111 (fun σ4 H locs e_σ4 hw => ?_)
      replace h := q_let_at e_σ4 h
      refine lv_aload_n hx hb dX0_become_112 rfl (lv_at hl 0 rfl) ?_
      refine gb_X0_4 C0 hw hk iX0_become_X0 (by decide +kernel) dX0_become_113 ?_
      refine lv_iconst (v := (4 : Int32)) hx hb dX0_become_116 (by decide) ?_
      refine lv_iload hx hb dX0_become_117 (lv_at hl 4 rfl) ?_
      refine lv_iadd hx hb dX0_become_119 ?_
      refine lv_dup2_11 hx hb dX0_become_120 rfl rfl ?_
      obtain ⟨b5, h⟩ := q_if h
      refine q_lald (t0 := 1) C0 hw (bN_4 (bD_2_2 hk)) (bE_4 (bD_2_2 hk)) rfl b5 dX0_become_121 ?_
      refine lv_lload_n hx hb dX0_become_122 rfl (lv_at hl 2 rfl) ?_
      refine lv_lor hx hb dX0_become_123 ?_
      obtain ⟨b6, h⟩ := q_if h
      refine q_last (t0 := 1) C0 hw (bN_4 (bD_2_2 hk)) (bE_4 (bD_2_2 hk)) rfl b6 dX0_become_124 (fun σ7 H locs e_σ7 hw => ?_)
      replace h := q_let_at e_σ7 h
      refine lv_aload_n hx hb dX0_become_125 rfl (lv_at hl 0 rfl) ?_
      refine gb_X0_4 C0 hw hk iX0_become_X0 (by decide +kernel) dX0_become_126 ?_
      refine lv_bipush (v := (8 : Int32)) hx hb dX0_become_129 (by decide) ?_
      refine lv_iload hx hb dX0_become_131 (lv_at hl 3 rfl) ?_
      refine lv_iadd hx hb dX0_become_133 ?_
      refine lv_dup2_11 hx hb dX0_become_134 rfl rfl ?_
      obtain ⟨b8, h⟩ := q_if h
      refine q_lald (t0 := 1) C0 hw (bN_4 (bD_2_2 hk)) (bE_4 (bD_2_2 hk)) rfl b8 dX0_become_135 ?_
      refine lv_lload_n hx hb dX0_become_136 rfl (lv_at hl 2 rfl) ?_
      refine lv_lor hx hb dX0_become_137 ?_
      obtain ⟨b9, h⟩ := q_if h
      refine q_last (t0 := 1) C0 hw (bN_4 (bD_2_2 hk)) (bE_4 (bD_2_2 hk)) rfl b9 dX0_become_138 (fun σ10 H locs e_σ10 hw => ?_)
      replace h := q_let_at e_σ10 h
      refine lv_lload_n hx hb dX0_become_139 rfl (lv_at hl 2 rfl) ?_
      refine lv_iconst (v := (1 : Int32)) hx hb dX0_become_140 (by decide) ?_
      refine lv_lshl (v := (q_shl v2 (1 : Int32))) hx hb dX0_become_141 rfl ?_
      refine lv_lstore_n (lv' := [(2, .long (q_shl v2 (1 : Int32))), (0, .ref (ad k)), (1, .int p1), (4, .int v4), (5, .int v5), (6, .int v6)]) hx hb dX0_become_142 rfl hl (by decide) rfl (fun ls hl => ?_)
      refine lv_iinc (v := (v6 + (1 : Int32))) (lv' := [(6, .int (v6 + (1 : Int32))), (2, .long (q_shl v2 (1 : Int32))), (0, .ref (ad k)), (1, .int p1), (4, .int v4), (5, .int v5)]) hx hb dX0_become_143 hl (k := 5) rfl rfl (by decide) rfl (fun ls hl => ?_)
      refine lv_goto (tgt := 95) hx hb dX0_become_146 (by decide) ?_
      exact hrec95 (q_shl v2 (1 : Int32)) v4 v5 (v6 + (1 : Int32)) σ10 _ _ _ hw (lv_sub hl [2, 3, 1, 4, 5, 0] rfl) h
set_option maxHeartbeats 4000000 in
set_option maxRecDepth 100000 in
theorem tB0_become_c86 {k : Nat} {p1 : Int32} {rec77 : Int64 → Int32 → q_M → Option (q_M)} (hk : bK k = 2) (C0 : CallFix p m c cX0_become 7 s args wsX0_become RX0) (hr : meth.sig.returnType = none) (hlk : meth.locks = false) {out : q_M} (hrec77 : ∀ (v2 : Int64) (v4 : Int32) (σ : q_M) (H : Heap) (locs : List Loc) (ls : Array Slot), q_H (gB D cI cJ cS ad adK adV) (q_A (gB D cI cJ cS ad adK adV) s.heap.size) s σ H locs → lv_has ls 7 [(0, .ref (ad k)), (1, .int p1), (2, .long v2), (4, .int v4)] → rec77 v2 v4 σ = some out → W p l e { frames := 1, cells := 0, slots := 0, locals := 24 } s m args below meth c H locs 0 0 (MQ below (q_Rv (gB D cI cJ cS ad adK adV) (q_A (gB D cI cJ cS ad adK adV) s.heap.size) out) args s 0 0 (q_A (gB D cI cJ cS ad adK adV) s.heap.size)) (F0 m 77 ls [])) : ∀ n : Nat, ∀ (v2 : Int64) (v4 : Int32) (v5 : Int32) (σ : q_M) (H : Heap) (locs : List Loc) (ls : Array Slot), q_H (gB D cI cJ cS ad adK adV) (q_A (gB D cI cJ cS ad adK adV) s.heap.size) s σ H locs → lv_has ls 7 [(0, .ref (ad k)), (1, .int p1), (2, .long v2), (4, .int v4), (5, .int v5)] → fX0_become_c86 k p1 rec77 n v2 v4 v5 σ = some out → W p l e { frames := 1, cells := 0, slots := 0, locals := 24 } s m args below meth c H locs 0 0 (MQ below (q_Rv (gB D cI cJ cS ad adK adV) (q_A (gB D cI cJ cS ad adK adV) s.heap.size) out) args s 0 0 (q_A (gB D cI cJ cS ad adK adV) s.heap.size)) (F0 m 86 ls []) := by
  obtain ⟨hx, hb, hml, hown, hts⟩ := id C0
  intro n
  induction n with
  | zero =>
    intro v2 v4 v5 σ H locs ls  hw hl h
    cases (show (none : Option (q_M)) = some out from h)
  | succ n hrec86 =>
    intro v2 v4 v5 σ H locs ls  hw hl h
    replace h : fX0_become_c86b k p1 rec77 (fX0_become_c86 k p1 rec77 n) v2 v4 v5 σ = some out := h
    unfold fX0_become_c86b at h
    refine lv_iload hx hb dX0_become_86 (lv_at hl 4 rfl) ?_
    refine lv_iload_n hx hb dX0_become_88 rfl (lv_at hl 1 rfl) ?_
    refine lv_icmp_ge (tgt := 155) hx hb dX0_become_89 (by decide) (fun c1 => ?_) (fun c1 => ?_)
    · replace h := q_t h c1
      refine lv_iinc (v := (v4 + (1 : Int32))) (lv' := [(4, .int (v4 + (1 : Int32))), (0, .ref (ad k)), (1, .int p1), (2, .long v2), (5, .int v5)]) hx hb dX0_become_155 hl (k := 3) rfl rfl (by decide) rfl (fun ls hl => ?_)
      refine lv_goto (tgt := 77) hx hb dX0_become_158 (by decide) ?_
      exact hrec77 v2 (v4 + (1 : Int32)) σ _ _ _ hw (lv_sub hl [1, 2, 3, 0] rfl) h
    · replace h := q_f h c1
      refine lv_iconst (v := (0 : Int32)) hx hb dX0_become_92 (by decide) ?_
      refine lv_istore (lv' := [(6, .int (0 : Int32)), (0, .ref (ad k)), (1, .int p1), (2, .long v2), (4, .int v4), (5, .int v5)]) hx hb dX0_become_93 hl (by decide) rfl (fun ls hl => ?_)
      exact tB0_become_c95 hk C0 hr hlk hrec77 hrec86 q_FU v2 v4 v5 (0 : Int32) σ _ _ _ hw (lv_sub hl [1, 2, 3, 4, 5, 0] rfl) h
set_option maxHeartbeats 4000000 in
set_option maxRecDepth 100000 in
theorem tB0_become_c77 {k : Nat} {p1 : Int32} (hk : bK k = 2) (C0 : CallFix p m c cX0_become 7 s args wsX0_become RX0) (hr : meth.sig.returnType = none) (hlk : meth.locks = false) {out : q_M}  : ∀ n : Nat, ∀ (v2 : Int64) (v4 : Int32) (σ : q_M) (H : Heap) (locs : List Loc) (ls : Array Slot), q_H (gB D cI cJ cS ad adK adV) (q_A (gB D cI cJ cS ad adK adV) s.heap.size) s σ H locs → lv_has ls 7 [(0, .ref (ad k)), (1, .int p1), (2, .long v2), (4, .int v4)] → fX0_become_c77 k p1 n v2 v4 σ = some out → W p l e { frames := 1, cells := 0, slots := 0, locals := 24 } s m args below meth c H locs 0 0 (MQ below (q_Rv (gB D cI cJ cS ad adK adV) (q_A (gB D cI cJ cS ad adK adV) s.heap.size) out) args s 0 0 (q_A (gB D cI cJ cS ad adK adV) s.heap.size)) (F0 m 77 ls []) := by
  obtain ⟨hx, hb, hml, hown, hts⟩ := id C0
  intro n
  induction n with
  | zero =>
    intro v2 v4 σ H locs ls  hw hl h
    cases (show (none : Option (q_M)) = some out from h)
  | succ n hrec77 =>
    intro v2 v4 σ H locs ls  hw hl h
    replace h : fX0_become_c77b k p1 (fX0_become_c77 k p1 n) v2 v4 σ = some out := h
    unfold fX0_become_c77b at h
    refine lv_iload hx hb dX0_become_77 (lv_at hl 3 rfl) ?_
    refine lv_iload_n hx hb dX0_become_79 rfl (lv_at hl 1 rfl) ?_
    refine lv_icmp_ge (tgt := 161) hx hb dX0_become_80 (by decide) (fun c1 => ?_) (fun c1 => ?_)
    · replace h := q_t h c1
      refine lv_iconst (v := (0 : Int32)) hx hb dX0_become_161 (by decide) ?_
      refine lv_istore (lv' := [(4, .int (0 : Int32)), (0, .ref (ad k)), (1, .int p1), (2, .long v2)]) hx hb dX0_become_162 hl (by decide) rfl (fun ls hl => ?_)
      exact tB0_become_c164 hk C0 hr hlk q_FU (0 : Int32) σ _ _ _ hw (lv_sub hl [1, 2, 0] rfl) h
    · replace h := q_f h c1
      refine lv_iconst (v := (0 : Int32)) hx hb dX0_become_83 (by decide) ?_
      refine lv_istore (lv' := [(5, .int (0 : Int32)), (0, .ref (ad k)), (1, .int p1), (2, .long v2), (4, .int v4)]) hx hb dX0_become_84 hl (by decide) rfl (fun ls hl => ?_)
      exact tB0_become_c86 hk C0 hr hlk hrec77 q_FU v2 v4 (0 : Int32) σ _ _ _ hw (lv_sub hl [1, 2, 3, 4, 0] rfl) h
set_option maxHeartbeats 4000000 in
set_option maxRecDepth 100000 in
theorem tB0_become_c38 {k : Nat} {p1 : Int32} (hk : bK k = 2) (C0 : CallFix p m c cX0_become 7 s args wsX0_become RX0) (hr : meth.sig.returnType = none) (hlk : meth.locks = false) {out : q_M}  : ∀ (s0 : Int64) (σ : q_M) (H : Heap) (locs : List Loc) (ls : Array Slot), q_H (gB D cI cJ cS ad adK adV) (q_A (gB D cI cJ cS ad adK adV) s.heap.size) s σ H locs → lv_has ls 7 [(0, .ref (ad k)), (1, .int p1)] → fX0_become_c38 k p1 s0 σ = some out → W p l e { frames := 1, cells := 0, slots := 0, locals := 24 } s m args below meth c H locs 0 0 (MQ below (q_Rv (gB D cI cJ cS ad adK adV) (q_A (gB D cI cJ cS ad adK adV) s.heap.size) out) args s 0 0 (q_A (gB D cI cJ cS ad adK adV) s.heap.size)) (F0 m 38 ls [.long s0, .ref (ad k)]) := by
  obtain ⟨hx, hb, hml, hown, hts⟩ := id C0
  intro s0 σ H locs ls  hw hl h
  unfold fX0_become_c38 at h
  refine pb_X0_2 C0 hw hk iX0_become_X0 (by decide +kernel) dX0_become_38 (fun σ1 H locs e_σ1 hw => ?_)
  replace h := q_let_at e_σ1 h
  refine lv_aload_n hx hb dX0_become_41 rfl (lv_at hl 0 rfl) ?_
  refine gb_X0_3 C0 hw hk iX0_become_X0 (by decide +kernel) dX0_become_42 ?_
  refine lv_iconst (v := (0 : Int32)) hx hb dX0_become_45 (by decide) ?_
  refine lv_iconst (v := (1 : Int32)) hx hb dX0_become_46 (by decide) ?_
  obtain ⟨b2, h⟩ := q_if h
  refine q_iast (t0 := 0) C0 hw (bN_3 (bD_2_1 hk)) (bE_3 (bD_2_1 hk)) rfl b2 dX0_become_47 (fun σ3 H locs e_σ3 hw => ?_)
  replace h := q_let_at e_σ3 h
  refine lv_aload_n hx hb dX0_become_48 rfl (lv_at hl 0 rfl) ?_
  refine gb_X0_3 C0 hw hk iX0_become_X0 (by decide +kernel) dX0_become_49 ?_
  refine lv_iconst (v := (1 : Int32)) hx hb dX0_become_52 (by decide) ?_
  refine lv_iload_n hx hb dX0_become_53 rfl (lv_at hl 1 rfl) ?_
  obtain ⟨b4, h⟩ := q_if h
  refine q_iast (t0 := 0) C0 hw (bN_3 (bD_2_1 hk)) (bE_3 (bD_2_1 hk)) rfl b4 dX0_become_54 (fun σ5 H locs e_σ5 hw => ?_)
  replace h := q_let_at e_σ5 h
  refine lv_aload_n hx hb dX0_become_55 rfl (lv_at hl 0 rfl) ?_
  refine gb_X0_3 C0 hw hk iX0_become_X0 (by decide +kernel) dX0_become_56 ?_
  refine lv_iconst (v := (2 : Int32)) hx hb dX0_become_59 (by decide) ?_
  refine lv_iload_n hx hb dX0_become_60 rfl (lv_at hl 1 rfl) ?_
  refine lv_iload_n hx hb dX0_become_61 rfl (lv_at hl 1 rfl) ?_
  refine lv_imul hx hb dX0_become_62 ?_
  obtain ⟨b6, h⟩ := q_if h
  refine q_iast (t0 := 0) C0 hw (bN_3 (bD_2_1 hk)) (bE_3 (bD_2_1 hk)) rfl b6 dX0_become_63 (fun σ7 H locs e_σ7 hw => ?_)
  replace h := q_let_at e_σ7 h
  refine lv_aload_n hx hb dX0_become_64 rfl (lv_at hl 0 rfl) ?_
  refine gb_X0_4 C0 hw hk iX0_become_X0 (by decide +kernel) dX0_become_65 ?_
  refine lv_lconst (v := (0 : Int64)) hx hb dX0_become_68 (by decide) ?_
  obtain ⟨o8, hco8, h⟩ := q_bind h
  refine q_callv hw (va_runS (As := [.ref (ad (k + 2)), .long (0 : Int64)]) (rest := []) C0 (kJ7_fill_d0a16 (t0 := 1) rfl (bN_4 (bD_2_2 hk)) (bE_4 (bD_2_2 hk)) hco8 _) (va_cwS 2 hts gX0_become_J7_fill_d0a16 rfl rfl rfl eJ7_fill_d0a16 ⟨(Nat.le_of_ble_eq_true rfl), (Nat.le_of_ble_eq_true rfl)⟩) ⟨q_blind, q_pre hw⟩ rfl rfl hl.1 rfl (lv_room (Nat.le_of_ble_eq_true rfl)) dX0_become_69 ⟨Nat.zero_le _, Nat.zero_le _⟩) (fun H locs hw => ?_)
  refine lv_lconst (v := (1 : Int64)) hx hb dX0_become_72 (by decide) ?_
  refine lv_lstore_n (lv' := [(2, .long (1 : Int64)), (0, .ref (ad k)), (1, .int p1)]) hx hb dX0_become_73 rfl hl (by decide) rfl (fun ls hl => ?_)
  refine lv_iconst (v := (0 : Int32)) hx hb dX0_become_74 (by decide) ?_
  refine lv_istore (lv' := [(4, .int (0 : Int32)), (2, .long (1 : Int64)), (0, .ref (ad k)), (1, .int p1)]) hx hb dX0_become_75 hl (by decide) rfl (fun ls hl => ?_)
  exact tB0_become_c77 hk C0 hr hlk q_FU (1 : Int64) (0 : Int32) o8 _ _ _ hw (lv_sub hl [2, 3, 1, 0] rfl) h
set_option maxHeartbeats 4000000 in
set_option maxRecDepth 100000 in
theorem kB0_become {k : Nat} {p1 : Int32} (hk : bK k = 2) {σ : q_M} {out : q_M} (h : fX0_become k p1 σ = some out) : q_Mv l (gB D cI cJ cS ad adK adV) yX0_become wsX0_become { frames := 1, cells := 0, slots := 0, locals := 24 } [.ref (ad k), .int p1] σ out := by
  refine q_Mv_of (cc := cX0_become) (maxL := 7) (ret := none) (by decide) rfl (Nat.le_of_ble_eq_true rfl) ?_
  intro p e s m below meth c ls C0 hr hlk hl hw
  obtain ⟨hx, hb, hml, hown, hts⟩ := id C0
  replace hl : lv_has ls 7 [(0, .ref (ad k)), (1, .int p1)] := hl
  unfold fX0_become at h
  refine lv_aload_n hx hb dX0_become_0 rfl (lv_at hl 0 rfl) ?_
  refine lv_iload_n hx hb dX0_become_1 rfl (lv_at hl 1 rfl) ?_
  refine pb_X0_0 C0 hw hk iX0_become_X0 (by decide +kernel) dX0_become_2 (fun σ1 H locs e_σ1 hw => ?_)
  replace h := q_let_at e_σ1 h
  refine lv_aload_n hx hb dX0_become_5 rfl (lv_at hl 0 rfl) ?_
  refine lv_iload_n hx hb dX0_become_6 rfl (lv_at hl 1 rfl) ?_
  refine lv_iload_n hx hb dX0_become_7 rfl (lv_at hl 1 rfl) ?_
  refine lv_imul hx hb dX0_become_8 ?_
  refine lv_iload_n hx hb dX0_become_9 rfl (lv_at hl 1 rfl) ?_
  refine lv_imul hx hb dX0_become_10 ?_
  refine pb_X0_1 C0 hw hk iX0_become_X0 (by decide +kernel) dX0_become_11 (fun σ2 H locs e_σ2 hw => ?_)
  replace h := q_let_at e_σ2 h
  refine lv_aload_n hx hb dX0_become_14 rfl (lv_at hl 0 rfl) ?_
  refine lv_aload_n hx hb dX0_become_15 rfl (lv_at hl 0 rfl) ?_
  refine gb_X0_1 C0 hw hk iX0_become_X0 (by decide +kernel) dX0_become_16 ?_
  refine lv_bipush (v := (64 : Int32)) hx hb dX0_become_19 (by decide) ?_
  refine lv_icmp_ne (tgt := 30) hx hb dX0_become_21 (by decide) (fun c3 => ?_) (fun c3 => ?_)
  · replace h := q_f h c3
    refine lv_lconst (v := (1 : Int64)) hx hb dX0_become_30 (by decide) ?_
    refine lv_aload_n hx hb dX0_become_31 rfl (lv_at hl 0 rfl) ?_
    refine gb_X0_1 C0 hw hk iX0_become_X0 (by decide +kernel) dX0_become_32 ?_
    refine lv_lshl (v := (q_shl (1 : Int64) (σ2.1 k 1))) hx hb dX0_become_35 rfl ?_
    refine lv_lconst (v := (1 : Int64)) hx hb dX0_become_36 (by decide) ?_
    refine lv_lsub hx hb dX0_become_37 ?_
    exact tB0_become_c38 hk C0 hr hlk ((q_shl (1 : Int64) (σ2.1 k 1)) - (1 : Int64)) σ2 _ _ _ hw (lv_sub hl [0, 1] rfl) h
  · replace h := q_t h c3
    refine lv_ldc2 (v := (-1 : Int64)) hx hb hown (hts (.constantLong RX0 33 (-1)) (by decide +kernel)) dX0_become_24 ?_
    refine lv_goto (tgt := 38) hx hb dX0_become_27 (by decide) ?_
    exact tB0_become_c38 hk C0 hr hlk (-1 : Int64) σ2 _ _ _ hw (lv_sub hl [0, 1] rfl) h
end
