/-- contracts of the reference's methods that may make an object: the world may grow -/
abbrev m_R (D : va_G) (cI cJ cR : ClassId) (adK adV : Nat → Nat) (A : Nat → Prop) (ad0 : Nat → Nat) (N0 : Nat) (out : Int32 × q_M × Nat) : Array Value → State → Outcome → State → Prop := va_Qi (fun (r : Int32) (u : Nat → Nat) => r = out.1 ∧ ∀ k, k < N0 → u k = ad0 k) (fun u t => q_Post (gM D cI cJ cR u adK adV out.2.2) A out.2.1 t) A
def m_Pre (D : va_G) (cI cJ cR : ClassId) (adK adV ad0 : Nat → Nat) (N0 sz : Nat) (σ : q_M) : State → Prop := fun U => q_Pre (gM D cI cJ cR ad0 adK adV N0) sz σ U ∧ va_AOA .long U
def m_M (l : Launch) (D : va_G) (cI cJ cR : ClassId) (adK adV : Nat → Nat) (y : MethodName) (ws : List Cond) (rm : Room) (ad0 : Nat → Nat) (N0 : Nat) (σ : q_M) (out : Int32 × q_M × Nat) (mc ms : Nat) : Prop :=
  ∀ sz : Nat, Met l y ws rm (va_Pc [.ref (ad0 0)] (m_Pre D cI cJ cR adK adV ad0 N0 sz σ)) (m_R D cI cJ cR adK adV (q_A (gM D cI cJ cR ad0 adK adV N0) sz) ad0 N0 out) mc ms (q_A (gM D cI cJ cR ad0 adK adV N0) sz)
theorem va_AOA.blind {ty : FieldType} {U : State} {gg : JFrame} {mk : MethodId} {a : Array Value} (h : va_AOA ty U) : va_AOA ty (U.calling gg mk a) := va_AOA.moved (u := U) (U := U.calling gg mk a) (Vm.Alike.refl U.vm) h
theorem m_blind {D : va_G} {cI cJ cR : ClassId} {adK adV ad0 : Nat → Nat} {N0 sz : Nat} {σ : q_M} {As : List Value} : FrameBlind (va_Pc As (m_Pre D cI cJ cR adK adV ad0 N0 sz σ)) := fun a U gg mk q => by
  obtain ⟨q0, ⟨q1, qP, qK, qD, qZ⟩, qX⟩ := q
  exact ⟨q0, ⟨q1, qP, va_K.moved (u := U) (U := U.calling gg mk a) (Vm.Alike.refl U.vm) qK, qD, q_Z_blind qZ⟩, va_AOA.blind qX⟩
section
variable {p : Program} {l : Launch} {e : Env} {R : Room} {s : State} {m : MethodId} {args : Array Value} {below : List Frame} {meth : Method} {c : Code} {H : Heap} {locs : List Loc} {cells slots : Nat} {Q : State → Prop}
variable {y : MethodName} {bytes cc : ByteArray} {maxL nL n index pc : Nat} {ret : Option FieldType} {ws ws' : List Cond} {rm : Room} {Ts : List Cond} {own : String} {rest : List Value} {ls : Array Slot}
variable {D : va_G} {cI cJ cR : ClassId} {adK adV ad0 u : Nat → Nat} {N0 N' : Nat} {A : Nat → Prop} {σ : q_M}
theorem m_M_of {out : Int32 × q_M × Nat} {mc ms : Nat} (hy : plainName y.cls = true) (hw : ws = Cond.code y cc maxL ret :: ws') (hL : 1 ≤ maxL)
    (body : ∀ p e s m below meth c ls, CallFix p m c cc maxL s [Value.ref (ad0 0)].toArray ws y.cls → meth.sig.returnType = ret → meth.locks = false → lv_has ls maxL [(0, .ref (ad0 0))] → va_AOA .long s → q_H (gM D cI cJ cR ad0 adK adV N0) (q_A (gM D cI cJ cR ad0 adK adV N0) s.heap.size) s σ s.heap [] → W p l e rm s m [Value.ref (ad0 0)].toArray below meth c s.heap [] 0 0 (MQ below (m_R D cI cJ cR adK adV (q_A (gM D cI cJ cR ad0 adK adV N0) s.heap.size) ad0 N0 out) [Value.ref (ad0 0)].toArray s mc ms (q_A (gM D cI cJ cR ad0 adK adV N0) s.heap.size)) (F0 m 0 ls [])) : m_M l D cI cJ cR adK adV y ws rm ad0 N0 σ out mc ms := by
  intro sz
  refine Met.ofW (cc := cc) (maxL := maxL) (ret := ret) hy hw ?_
  intro p e s m args below meth c s₁ B hml hv
  obtain ⟨rfl, hP, hX⟩ := hv
  obtain rfl := hP.1
  exact q_enter (As := [.ref (ad0 0)]) hL B.exec hP (fun ls hl hH => body p e s m below meth c ls ⟨B.exec, B.bytes, hml, findClass_of_methodNamed B.named, atoms_spec (ws := ws) B.pre⟩ B.returns B.notSynchronized hl hX hH)
theorem m_iret {v : Int32} (C0 : CallFix p m c cc nL s args Ts own) (hr : meth.sig.returnType = some .int) (hlocks : meth.locks = false) (hu : ∀ k, k < N0 → u k = ad0 k) (hw : q_H (gM D cI cJ cR u adK adV N') A s σ H locs) (hdg : decode cc pc = .ok (.ireturn, 1)) :
    W p l e R s m args below meth c H locs cells slots (MQ below (m_R D cI cJ cR adK adV A ad0 N0 (v, σ, N')) args s cells slots A) (F0 m pc ls [.int v]) := by
  obtain ⟨hK, hP, hD, hS, -⟩ := hw
  exact W.iret (v := v) C0.1 C0.2.1 hr (fun t ht hW => ⟨⟨v, u, rfl, ⟨rfl, hu⟩, by rw [ht]; exact hP, va_K.moved hW.alike hK, hD⟩, hS.F ht⟩) hS.2.2 hdg

theorem pr_X9_19 {b k q o : Nat} (hq : q = u b) (ho : o = u k) (hb0 : b ≠ 0) (hb : b < 2 ^ 31) (C0 : CallFix p m c cc nL s args Ts own) (hw : q_H (gM D cI cJ cR u adK adV N') A s σ H locs) (hk : mB N' k) (hin : ∀ w ∈ wsX90, w ∈ Ts) (hlink : Cond.fieldLink own index "MouldThatComesOffModel" "kept" "LMouldThatComesOffModel;" ∈ Ts) (hdg : decode cc pc = .ok (.putfield index, 3))
    (kk : ∀ (H1 : Heap) (locs1 : List Loc), q_H (gM D cI cJ cR u adK adV N') A s (q_I σ k 19 (nI b)) H1 locs1 → W p l e R s m args below meth c H1 locs1 cells slots Q (F0 m (pc + 3) ls rest)) : W p l e R s m args below meth c H locs cells slots Q (F0 m pc ls (.ref q :: .ref o :: rest)) := by
  subst hq ho
  exact q_put (σ' := q_I σ k 19 (nI b)) (ty := .object "MouldThatComesOffModel") C0 hw (mN_0 hk) (mE_0 hk _ _) (by rw [mE_0 hk]; simp [q_I, mRn_nI hb0 hb]) (fun a h => ⟨q_I_off h, rfl⟩) (j := 19) rfl hin tyX9 tyX9_ok nmX9 (by decide) hlink rfl rfl (by decide +kernel) rfl rfl (by simp) hdg (fun H1 locs1 hw => kk H1 locs1 hw)
theorem pr_X9_27 {b k q o : Nat} (hq : q = u b) (ho : o = u k) (hb0 : b ≠ 0) (hb : b < 2 ^ 31) (C0 : CallFix p m c cc nL s args Ts own) (hw : q_H (gM D cI cJ cR u adK adV N') A s σ H locs) (hk : mB N' k) (hin : ∀ w ∈ wsX90, w ∈ Ts) (hlink : Cond.fieldLink own index "MouldThatComesOffModel" "ahead" "LMouldThatComesOffModel;" ∈ Ts) (hdg : decode cc pc = .ok (.putfield index, 3))
    (kk : ∀ (H1 : Heap) (locs1 : List Loc), q_H (gM D cI cJ cR u adK adV N') A s (q_I σ k 27 (nI b)) H1 locs1 → W p l e R s m args below meth c H1 locs1 cells slots Q (F0 m (pc + 3) ls rest)) : W p l e R s m args below meth c H locs cells slots Q (F0 m pc ls (.ref q :: .ref o :: rest)) := by
  subst hq ho
  exact q_put (σ' := q_I σ k 27 (nI b)) (ty := .object "MouldThatComesOffModel") C0 hw (mN_0 hk) (mE_0 hk _ _) (by rw [mE_0 hk]; simp [q_I, mRn_nI hb0 hb]) (fun a h => ⟨q_I_off h, rfl⟩) (j := 27) rfl hin tyX9 tyX9_ok nmX9 (by decide) hlink rfl rfl (by decide +kernel) rfl rfl (by simp) hdg (fun H1 locs1 hw => kk H1 locs1 hw)
end
theorem eX9_takeFrom_ : yX9_takeFrom.cls = RX9 ∧ yX9_takeFrom.cls ≠ "java/lang/invoke/MethodHandle" ∧ yX9_takeFrom.cls ≠ "java/lang/invoke/VarHandle" ∧ (parseMethodDescriptor yX9_takeFrom.desc).map (fun d => d.parameters.length) = some 1 := by decide +kernel
theorem eX9_readAll_ : yX9_readAll.cls = RX9 ∧ yX9_readAll.cls ≠ "java/lang/invoke/MethodHandle" ∧ yX9_readAll.cls ≠ "java/lang/invoke/VarHandle" ∧ (parseMethodDescriptor yX9_readAll.desc).map (fun d => d.parameters.length) = some 0 := by decide +kernel
theorem eX9_refuse_ : yX9_refuse.cls = RX9 ∧ yX9_refuse.cls ≠ "java/lang/invoke/MethodHandle" ∧ yX9_refuse.cls ≠ "java/lang/invoke/VarHandle" ∧ (parseMethodDescriptor yX9_refuse.desc).map (fun d => d.parameters.length) = some 1 := by decide +kernel
theorem iX9_read_X9 : ∀ w ∈ wsX90, w ∈ wsX9_read := by decide +kernel
theorem iX9_image_X9 : ∀ w ∈ wsX90, w ∈ wsX9_image := by decide +kernel
theorem iX9_back_X9 : ∀ w ∈ wsX90, w ∈ wsX9_back := by decide +kernel
section
variable {p : Program} {l : Launch} {e : Env} {s : State} {m : MethodId} {args : Array Value} {below : List Frame} {meth : Method} {c : Code} {H : Heap} {locs : List Loc} {cells slots : Nat} {ls : Array Slot} {D : va_G} {cI cJ cR : ClassId} {adK adV ad0 u : Nat → Nat} {N0 N' : Nat} {A : Nat → Prop}
set_option maxHeartbeats 4000000 in
set_option maxRecDepth 100000 in
theorem tX9_image_c18 {σ σ' : q_M} {kb : Nat} (C0 : CallFix p m c cX9_image 1 s args wsX9_image RX9) (hr : meth.sig.returnType = some .int) (hlk : meth.locks = false) (hu : ∀ k, k < N0 → u k = ad0 k) (hk0 : mB N' 0) (hkb : mB N' kb) (h0 : kb ≠ 0) (hs : kb < 2 ^ 31) (hkept : σ.1 0 19 = nI kb) (h : fX9_takeFrom kb 0 σ = some σ') (hc : cells ≤ 29) (hsl : slots ≤ 1060)
    (hw : q_H (gM D cI cJ cR u adK adV N') A s σ H locs) (hl : lv_has ls 1 [(0, .ref (u 0))]) : W p l e { frames := 2, cells := 29, slots := 1060, locals := 41 } s m args below meth c H locs cells slots (MQ below (m_R D cI cJ cR adK adV A ad0 N0 (1, σ', N')) args s 29 1060 A) (F0 m 18 ls []) := by
  obtain ⟨hx, hb, hml, hown, hts⟩ := id C0
  refine lv_aload_n hx hb dX9_image_18 rfl (lv_at hl 0 rfl) ?_
  refine gt_X9_19 C0 hw hk0 iX9_image_X9 (by decide +kernel) dX9_image_19 ?_
  rw [hkept, mRn_nI h0 hs]
  refine lv_aload_n hx hb dX9_image_22 rfl (lv_at hl 0 rfl) ?_
  refine q_callv hw (va_runV (As := [.ref (u 0)]) (rest := []) C0 (kX9_takeFrom hkb hk0 h _) (cwV 1 hts gX9_image_X9_takeFrom rfl rfl rfl eX9_takeFrom_ ⟨(Nat.le_of_ble_eq_true rfl), (Nat.le_of_ble_eq_true rfl)⟩) ⟨q_blind, q_recv hw (mN_0 hkb) (mE_0 hkb) rfl, q_pre hw⟩ rfl rfl hl.1 rfl (lv_room (Nat.le_of_ble_eq_true rfl)) dX9_image_23 ⟨(show cells + 0 ≤ 29 by omega), (show slots + 0 ≤ 1060 by omega)⟩) (fun H locs hw => ?_)
  refine lv_iconst (v := (1 : Int32)) hx hb dX9_image_26 (by decide) ?_
  refine W.widen (k := 29) (n := 1060) hc hsl ?_
  exact m_iret C0 hr hlk hu hw dX9_image_27
set_option maxHeartbeats 4000000 in
set_option maxRecDepth 100000 in
theorem kX9_imageA {σ σ1 σ' : q_M} (hk0 : mB N0 0) (hk0n : N0 % 29 = 0) (hNs : N0 < 2 ^ 31) (hv : mV N0 σ) (hnull : σ.1 0 19 = 0) (hS : fX9_showOnes 0 m_0 = some σ1) (h19 : σ1.1 0 19 = 0) (h27 : σ1.1 0 27 = 0) (h : fX9_takeFrom N0 0 (q_I (glM σ σ1 N0) 0 19 (nI N0)) = some σ') : m_M l D cI cJ cR adK adV yX9_image wsX9_image { frames := 2, cells := 29, slots := 1060, locals := 41 } ad0 N0 σ (1, σ', N0 + 29) 29 1060 := by
  refine m_M_of (cc := cX9_image) (maxL := 1) (ret := some .int) (by decide) rfl (by decide) ?_
  intro p e s m below meth c ls C0 hr hlk hl hX hw
  obtain ⟨hx, hb, hml, hown, hts⟩ := id C0
  refine lv_aload_n hx hb dX9_image_0 rfl (lv_at hl 0 rfl) ?_
  refine gt_X9_19 C0 hw hk0 iX9_image_X9 (by decide +kernel) dX9_image_1 ?_
  rw [mRn_0 hnull]
  refine lv_ifnonnullN hx hb dX9_image_4 ?_
  refine lv_aload_n hx hb dX9_image_7 rfl (lv_at hl 0 rfl) ?_
  have hwc : c_H D (tyM_ cI cJ cR) adK adV (q_A (gM D cI cJ cR ad0 adK adV N0) s.heap.size) s (q_ws (gM D cI cJ cR ad0 adK adV N0) σ) s.heap [] := hw
  refine c_newo (ci := 8) (fs := [.null, .null, .null, .null, .null, .null, .null, .null, .null, .int 0, .null, .int 0, .long 0, .int 0, .null, .int 0, .null, .int 0, .int 0, .null, .int 0, .int 0, .int 0, .long 0, .int 0, .null, .int 0, .null, .int 0, .null, .null, .int 0, .null, .null, .null, .null, .null]) C0 hwc rfl iX9_image_X9 tyX9 tyX9_ok (by decide +kernel) (by decide +kernel) (by decide +kernel) (fun j hj => by rcases (show j = 0 ∨ j = 1 ∨ j = 2 ∨ j = 3 ∨ j = 4 ∨ j = 5 ∨ j = 6 ∨ j = 7 ∨ j = 8 ∨ j = 9 ∨ j = 10 ∨ j = 11 ∨ j = 12 ∨ j = 13 ∨ j = 14 ∨ j = 15 ∨ j = 16 ∨ j = 17 ∨ j = 18 ∨ j = 19 ∨ j = 20 ∨ j = 21 ∨ j = 22 ∨ j = 23 ∨ j = 24 ∨ j = 25 ∨ j = 26 ∨ j = 27 ∨ j = 28 ∨ j = 29 ∨ j = 30 ∨ j = 31 ∨ j = 32 ∨ j = 33 ∨ j = 34 ∨ j = 35 ∨ j = 36 by omega) with rfl | rfl | rfl | rfl | rfl | rfl | rfl | rfl | rfl | rfl | rfl | rfl | rfl | rfl | rfl | rfl | rfl | rfl | rfl | rfl | rfl | rfl | rfl | rfl | rfl | rfl | rfl | rfl | rfl | rfl | rfl | rfl | rfl | rfl | rfl | rfl | rfl <;> rfl) (Nat.le_of_ble_eq_true rfl) (Nat.le_of_ble_eq_true rfl) dX9_image_8 (fun q H hw => ?_)
  refine lv_dup hx hb dX9_image_11 rfl ?_
  refine c_call hw (va_runI (As := []) (rest := [.ref q, .ref (ad0 0)]) C0 (kX9_init hS _ _) (cwI 0 hts gX9_image_X9_init rfl rfl rfl (hts (.initialized RX9) (by decide +kernel)) (hts (.methodLink RX9 265 yX9_init) (by decide +kernel)) (hts (.instanceMethod yX9_init) (by decide +kernel)) rfl ⟨by decide +kernel, by decide +kernel, by decide +kernel⟩ ⟨(Nat.le_of_ble_eq_true rfl), (Nat.le_of_ble_eq_true rfl)⟩) ⟨c_blind (fun _ _ _ _ h => va_AOA.blind h), c_pre hw (fun U hW => va_AOA.moved hW.alike hX)⟩ rfl rfl hl.1 rfl (lv_room (Nat.le_of_ble_eq_true rfl)) dX9_image_12 ⟨(Nat.le_of_ble_eq_true rfl), (Nat.le_of_ble_eq_true rfl)⟩) (fun a1 H locs hw => ?_)
  obtain ⟨u, hue⟩ : ∃ u : Nat → Nat, u = glA ad0 (fun k => if k = 0 then q else a1 k) N0 := ⟨_, rfl⟩
  replace hw := m_glue hk0n hv h19 h27 hw
  rw [← hue] at hw
  have hN0 : 0 < N0 := by have := hk0.2; omega
  have hu : ∀ k, k < N0 → u k = ad0 k := fun k hk => by rw [hue]; simp [glA, hk]
  have huN : q = u N0 := by rw [hue]; simp [glA]
  refine pr_X9_19 huN (hu 0 hN0).symm (by omega) hNs C0 hw ⟨rfl, by omega⟩ iX9_image_X9 (by decide +kernel) dX9_image_15 (fun H locs hw => ?_)
  rw [← hu 0 hN0] at hl
  exact tX9_image_c18 C0 hr hlk hu ⟨rfl, by omega⟩ ⟨hk0n, by omega⟩ (by omega) hNs (by simp [q_I]) h (by decide) (by decide) hw hl
set_option maxHeartbeats 4000000 in
set_option maxRecDepth 100000 in
theorem kX9_imageB {σ σ' : q_M} {kb : Nat} (hk0 : mB N0 0) (hkb : mB N0 kb) (h0 : kb ≠ 0) (hs : kb < 2 ^ 31) (hkept : σ.1 0 19 = nI kb) (h : fX9_takeFrom kb 0 σ = some σ') : m_M l D cI cJ cR adK adV yX9_image wsX9_image { frames := 2, cells := 29, slots := 1060, locals := 41 } ad0 N0 σ (1, σ', N0) 29 1060 := by
  refine m_M_of (cc := cX9_image) (maxL := 1) (ret := some .int) (by decide) rfl (by decide) ?_
  intro p e s m below meth c ls C0 hr hlk hl hX hw
  obtain ⟨hx, hb, hml, hown, hts⟩ := id C0
  refine lv_aload_n hx hb dX9_image_0 rfl (lv_at hl 0 rfl) ?_
  refine gt_X9_19 C0 hw hk0 iX9_image_X9 (by decide +kernel) dX9_image_1 ?_
  rw [hkept, mRn_nI h0 hs]
  refine lv_ifnonnull (tgt := 18) hx hb dX9_image_4 (by decide) ?_
  exact tX9_image_c18 C0 hr hlk (fun _ _ => rfl) hk0 hkb h0 hs hkept h (by decide) (by decide) hw hl
set_option maxHeartbeats 4000000 in
set_option maxRecDepth 100000 in
theorem tX9_read_c18 {σ : q_M} {out : Int32 × q_M} {kb : Nat} (C0 : CallFix p m c cX9_read 2 s args wsX9_read RX9) (hr : meth.sig.returnType = some .int) (hlk : meth.locks = false) (hu : ∀ k, k < N0 → u k = ad0 k) (hk0 : mB N' 0) (hkb : mB N' kb) (h0 : kb ≠ 0) (hs : kb < 2 ^ 31) (hah : σ.1 0 27 = nI kb) (hah2 : ∀ σ2 o, fX9_takeFrom kb 0 σ = some σ2 → fX9_readAll 0 σ2 = some o → o.2.1 0 27 = nI kb) (h : fX9_read_18 kb σ = some out) (hc : cells ≤ 29) (hsl : slots ≤ 1060)
    (hw : q_H (gM D cI cJ cR u adK adV N') A s σ H locs) (hl : lv_has ls 2 [(0, .ref (u 0))]) : W p l e { frames := 9, cells := 29, slots := 1060, locals := 193 } s m args below meth c H locs cells slots (MQ below (m_R D cI cJ cR adK adV A ad0 N0 (out.1, out.2, N')) args s 29 1060 A) (F0 m 18 ls []) := by
  obtain ⟨hx, hb, hml, hown, hts⟩ := id C0
  unfold fX9_read_18 at h
  refine lv_aload_n hx hb dX9_read_18 rfl (lv_at hl 0 rfl) ?_
  refine gt_X9_27 C0 hw hk0 iX9_read_X9 (by decide +kernel) dX9_read_19 ?_
  rw [hah, mRn_nI h0 hs]
  refine lv_aload_n hx hb dX9_read_22 rfl (lv_at hl 0 rfl) ?_
  obtain ⟨σ2, hc2, h⟩ := q_bind h
  refine q_callv hw (va_runV (As := [.ref (u 0)]) (rest := []) C0 (kX9_takeFrom hkb hk0 hc2 _) (cwV 1 hts gX9_read_X9_takeFrom rfl rfl rfl eX9_takeFrom_ ⟨(Nat.le_of_ble_eq_true rfl), (Nat.le_of_ble_eq_true rfl)⟩) ⟨q_blind, q_recv hw (mN_0 hkb) (mE_0 hkb) rfl, q_pre hw⟩ rfl rfl hl.1 rfl (lv_room (Nat.le_of_ble_eq_true rfl)) dX9_read_23 ⟨(show cells + 0 ≤ 29 by omega), (show slots + 0 ≤ 1060 by omega)⟩) (fun H locs hw => ?_)
  refine lv_aload_n hx hb dX9_read_26 rfl (lv_at hl 0 rfl) ?_
  obtain ⟨o, hco, h⟩ := q_bind h
  refine q_calli hw (va_runV (As := []) (rest := []) C0 (kX9_readAll hk0 hco _) (cwV 0 hts gX9_read_X9_readAll rfl rfl rfl eX9_readAll_ ⟨(Nat.le_of_ble_eq_true rfl), (Nat.le_of_ble_eq_true rfl)⟩) ⟨q_blind, q_recv hw (mN_0 hk0) (mE_0 hk0) rfl, q_pre hw⟩ rfl rfl hl.1 rfl (lv_room (Nat.le_of_ble_eq_true rfl)) dX9_read_27 ⟨(show cells + 0 ≤ 29 by omega), (show slots + 0 ≤ 1060 by omega)⟩) (fun H locs hw => ?_)
  refine lv_istore_n (lv' := [(1, .int o.1), (0, .ref (u 0))]) hx hb dX9_read_30 rfl hl (by decide) rfl (fun ls hl => ?_)
  refine lv_aload_n hx hb dX9_read_31 rfl (lv_at hl 1 rfl) ?_
  refine lv_iconst (v := (0 : Int32)) hx hb dX9_read_32 (by decide) ?_
  refine pt_X9_9 C0 hw hk0 iX9_read_X9 (by decide +kernel) dX9_read_33 (fun σ4 H locs e_σ4 hw => ?_)
  replace h := q_let_at e_σ4 h
  refine lv_iload_n hx hb dX9_read_36 rfl (lv_at hl 0 rfl) ?_
  refine lv_if_ne (tgt := 63) hx hb dX9_read_37 (by decide) (fun c5 => ?_) (fun c5 => ?_)
  · replace h := q_f h c5
    refine lv_aload_n hx hb dX9_read_63 rfl (lv_at hl 1 rfl) ?_
    refine gt_X9_26 C0 hw hk0 iX9_read_X9 (by decide +kernel) dX9_read_64 ?_
    refine W.widen (k := 29) (n := 1060) hc hsl ?_
    obtain rfl := Option.some.inj h
    exact m_iret C0 hr hlk hu hw dX9_read_67
  · replace h := q_t h c5
    refine lv_aload_n hx hb dX9_read_40 rfl (lv_at hl 1 rfl) ?_
    refine lv_aload_n hx hb dX9_read_41 rfl (lv_at hl 1 rfl) ?_
    refine gt_X9_27 C0 hw hk0 iX9_read_X9 (by decide +kernel) dX9_read_42 ?_
    rw [show σ4.1 0 27 = nI kb by rw [e_σ4]; simpa [q_I] using hah2 σ2 o hc2 hco, mRn_nI h0 hs]
    obtain ⟨σ5, hc5, h⟩ := q_bind h
    refine q_callv hw (va_runV (As := [.ref (u kb)]) (rest := []) C0 (kX9_takeFrom hk0 hkb hc5 _) (cwV 1 hts gX9_read_X9_takeFrom rfl rfl rfl eX9_takeFrom_ ⟨(Nat.le_of_ble_eq_true rfl), (Nat.le_of_ble_eq_true rfl)⟩) ⟨q_blind, q_recv hw (mN_0 hk0) (mE_0 hk0) rfl, q_pre hw⟩ rfl rfl hl.1 rfl (lv_room (Nat.le_of_ble_eq_true rfl)) dX9_read_45 ⟨(show cells + 0 ≤ 29 by omega), (show slots + 0 ≤ 1060 by omega)⟩) (fun H locs hw => ?_)
    refine lv_aload_n hx hb dX9_read_48 rfl (lv_at hl 1 rfl) ?_
    refine lv_bipush (v := (-2 : Int32)) hx hb dX9_read_49 (by decide) ?_
    obtain ⟨o6, hc6, h⟩ := q_bind h
    refine q_calli hw (va_runV (As := [.int (-2 : Int32)]) (rest := []) C0 (kX9_refuse hk0 hc6 _) (cwV 1 hts gX9_read_X9_refuse rfl rfl rfl eX9_refuse_ ⟨(Nat.le_of_ble_eq_true rfl), (Nat.le_of_ble_eq_true rfl)⟩) ⟨q_blind, q_recv hw (mN_0 hk0) (mE_0 hk0) rfl, q_pre hw⟩ rfl rfl hl.1 rfl (lv_room (Nat.le_of_ble_eq_true rfl)) dX9_read_51 ⟨(show cells + 0 ≤ 29 by omega), (show slots + 0 ≤ 1060 by omega)⟩) (fun H locs hw => ?_)
    refine lv_pop hx hb dX9_read_54 rfl ?_
    refine lv_bipush (v := (-20 : Int32)) hx hb dX9_read_55 (by decide) ?_
    refine lv_aload_n hx hb dX9_read_57 rfl (lv_at hl 1 rfl) ?_
    refine gt_X9_24 C0 hw hk0 iX9_read_X9 (by decide +kernel) dX9_read_58 ?_
    refine lv_isub hx hb dX9_read_61 ?_
    refine W.widen (k := 29) (n := 1060) hc hsl ?_
    obtain rfl := Option.some.inj h
    exact m_iret C0 hr hlk hu hw dX9_read_62
set_option maxHeartbeats 4000000 in
set_option maxRecDepth 100000 in
theorem kX9_readA {σ σ1 : q_M} {out : Int32 × q_M} (hk0 : mB N0 0) (hk0n : N0 % 29 = 0) (hNs : N0 < 2 ^ 31) (hv : mV N0 σ) (hnull : σ.1 0 27 = 0) (hS : fX9_showOnes 0 m_0 = some σ1) (h19 : σ1.1 0 19 = 0) (h27 : σ1.1 0 27 = 0) (hah2 : ∀ σ2 o, fX9_takeFrom N0 0 (q_I (glM σ σ1 N0) 0 27 (nI N0)) = some σ2 → fX9_readAll 0 σ2 = some o → o.2.1 0 27 = nI N0) (h : fX9_read_18 N0 (q_I (glM σ σ1 N0) 0 27 (nI N0)) = some out) : m_M l D cI cJ cR adK adV yX9_read wsX9_read { frames := 9, cells := 29, slots := 1060, locals := 193 } ad0 N0 σ (out.1, out.2, N0 + 29) 29 1060 := by
  refine m_M_of (cc := cX9_read) (maxL := 2) (ret := some .int) (by decide) rfl (by decide) ?_
  intro p e s m below meth c ls C0 hr hlk hl hX hw
  obtain ⟨hx, hb, hml, hown, hts⟩ := id C0
  refine lv_aload_n hx hb dX9_read_0 rfl (lv_at hl 0 rfl) ?_
  refine gt_X9_27 C0 hw hk0 iX9_read_X9 (by decide +kernel) dX9_read_1 ?_
  rw [mRn_0 hnull]
  refine lv_ifnonnullN hx hb dX9_read_4 ?_
  refine lv_aload_n hx hb dX9_read_7 rfl (lv_at hl 0 rfl) ?_
  have hwc : c_H D (tyM_ cI cJ cR) adK adV (q_A (gM D cI cJ cR ad0 adK adV N0) s.heap.size) s (q_ws (gM D cI cJ cR ad0 adK adV N0) σ) s.heap [] := hw
  refine c_newo (ci := 8) (fs := [.null, .null, .null, .null, .null, .null, .null, .null, .null, .int 0, .null, .int 0, .long 0, .int 0, .null, .int 0, .null, .int 0, .int 0, .null, .int 0, .int 0, .int 0, .long 0, .int 0, .null, .int 0, .null, .int 0, .null, .null, .int 0, .null, .null, .null, .null, .null]) C0 hwc rfl iX9_read_X9 tyX9 tyX9_ok (by decide +kernel) (by decide +kernel) (by decide +kernel) (fun j hj => by rcases (show j = 0 ∨ j = 1 ∨ j = 2 ∨ j = 3 ∨ j = 4 ∨ j = 5 ∨ j = 6 ∨ j = 7 ∨ j = 8 ∨ j = 9 ∨ j = 10 ∨ j = 11 ∨ j = 12 ∨ j = 13 ∨ j = 14 ∨ j = 15 ∨ j = 16 ∨ j = 17 ∨ j = 18 ∨ j = 19 ∨ j = 20 ∨ j = 21 ∨ j = 22 ∨ j = 23 ∨ j = 24 ∨ j = 25 ∨ j = 26 ∨ j = 27 ∨ j = 28 ∨ j = 29 ∨ j = 30 ∨ j = 31 ∨ j = 32 ∨ j = 33 ∨ j = 34 ∨ j = 35 ∨ j = 36 by omega) with rfl | rfl | rfl | rfl | rfl | rfl | rfl | rfl | rfl | rfl | rfl | rfl | rfl | rfl | rfl | rfl | rfl | rfl | rfl | rfl | rfl | rfl | rfl | rfl | rfl | rfl | rfl | rfl | rfl | rfl | rfl | rfl | rfl | rfl | rfl | rfl | rfl <;> rfl) (Nat.le_of_ble_eq_true rfl) (Nat.le_of_ble_eq_true rfl) dX9_read_8 (fun q H hw => ?_)
  refine lv_dup hx hb dX9_read_11 rfl ?_
  refine c_call hw (va_runI (As := []) (rest := [.ref q, .ref (ad0 0)]) C0 (kX9_init hS _ _) (cwI 0 hts gX9_read_X9_init rfl rfl rfl (hts (.initialized RX9) (by decide +kernel)) (hts (.methodLink RX9 265 yX9_init) (by decide +kernel)) (hts (.instanceMethod yX9_init) (by decide +kernel)) rfl ⟨by decide +kernel, by decide +kernel, by decide +kernel⟩ ⟨(Nat.le_of_ble_eq_true rfl), (Nat.le_of_ble_eq_true rfl)⟩) ⟨c_blind (fun _ _ _ _ h => va_AOA.blind h), c_pre hw (fun U hW => va_AOA.moved hW.alike hX)⟩ rfl rfl hl.1 rfl (lv_room (Nat.le_of_ble_eq_true rfl)) dX9_read_12 ⟨(Nat.le_of_ble_eq_true rfl), (Nat.le_of_ble_eq_true rfl)⟩) (fun a1 H locs hw => ?_)
  obtain ⟨u, hue⟩ : ∃ u : Nat → Nat, u = glA ad0 (fun k => if k = 0 then q else a1 k) N0 := ⟨_, rfl⟩
  replace hw := m_glue hk0n hv h19 h27 hw
  rw [← hue] at hw
  have hN0 : 0 < N0 := by have := hk0.2; omega
  have hu : ∀ k, k < N0 → u k = ad0 k := fun k hk => by rw [hue]; simp [glA, hk]
  have huN : q = u N0 := by rw [hue]; simp [glA]
  refine pr_X9_27 huN (hu 0 hN0).symm (by omega) hNs C0 hw ⟨rfl, by omega⟩ iX9_read_X9 (by decide +kernel) dX9_read_15 (fun H locs hw => ?_)
  rw [← hu 0 hN0] at hl
  exact tX9_read_c18 C0 hr hlk hu ⟨rfl, by omega⟩ ⟨hk0n, by omega⟩ (by omega) hNs (by simp [q_I]) hah2 h (by decide) (by decide) hw hl
set_option maxHeartbeats 4000000 in
set_option maxRecDepth 100000 in
theorem kX9_readB {σ : q_M} {out : Int32 × q_M} {kb : Nat} (hk0 : mB N0 0) (hkb : mB N0 kb) (h0 : kb ≠ 0) (hs : kb < 2 ^ 31) (hah : σ.1 0 27 = nI kb) (hah2 : ∀ σ2 o, fX9_takeFrom kb 0 σ = some σ2 → fX9_readAll 0 σ2 = some o → o.2.1 0 27 = nI kb) (h : fX9_read_18 kb σ = some out) : m_M l D cI cJ cR adK adV yX9_read wsX9_read { frames := 9, cells := 29, slots := 1060, locals := 193 } ad0 N0 σ (out.1, out.2, N0) 29 1060 := by
  refine m_M_of (cc := cX9_read) (maxL := 2) (ret := some .int) (by decide) rfl (by decide) ?_
  intro p e s m below meth c ls C0 hr hlk hl hX hw
  obtain ⟨hx, hb, hml, hown, hts⟩ := id C0
  refine lv_aload_n hx hb dX9_read_0 rfl (lv_at hl 0 rfl) ?_
  refine gt_X9_27 C0 hw hk0 iX9_read_X9 (by decide +kernel) dX9_read_1 ?_
  rw [hah, mRn_nI h0 hs]
  refine lv_ifnonnull (tgt := 18) hx hb dX9_read_4 (by decide) ?_
  exact tX9_read_c18 C0 hr hlk (fun _ _ => rfl) hk0 hkb h0 hs hah hah2 h (by decide) (by decide) hw hl
set_option maxHeartbeats 4000000 in
set_option maxRecDepth 100000 in
theorem kX9_backA {σ : q_M} {out : Int32 × q_M} (hk0 : mB N0 0) (hnull : σ.1 0 19 = 0) (h : fX9_backA σ = some out) : q_Mi l (gM D cI cJ cR ad0 adK adV N0) yX9_back wsX9_back { frames := 1, cells := 0, slots := 0, locals := 22 } [.ref (ad0 0)] σ out := by
  refine q_Mi_of (cc := cX9_back) (maxL := 1) (ret := some .int) (by decide) rfl (Nat.le_of_ble_eq_true rfl) ?_
  intro p e s m below meth c ls C0 hr hlk hl hw
  obtain ⟨hx, hb, hml, hown, hts⟩ := id C0
  replace hl : lv_has ls 1 [(0, .ref (ad0 0))] := hl
  unfold fX9_backA at h
  refine lv_aload_n hx hb dX9_back_0 rfl (lv_at hl 0 rfl) ?_
  refine gt_X9_19 C0 hw hk0 iX9_back_X9 (by decide +kernel) dX9_back_1 ?_
  rw [mRn_0 hnull]
  refine lv_ifnonnullN hx hb dX9_back_4 ?_
  refine lv_aload_n hx hb dX9_back_7 rfl (lv_at hl 0 rfl) ?_
  refine lv_bipush (v := (-5 : Int32)) hx hb dX9_back_8 (by decide) ?_
  refine q_calli hw (va_runV (As := [.int (-5 : Int32)]) (rest := []) C0 (kX9_refuse hk0 h _) (cwV 1 hts gX9_back_X9_refuse rfl rfl rfl eX9_refuse_ ⟨(Nat.le_of_ble_eq_true rfl), (Nat.le_of_ble_eq_true rfl)⟩) ⟨q_blind, q_recv hw (mN_0 hk0) (mE_0 hk0) rfl, q_pre hw⟩ rfl rfl hl.1 rfl (lv_room (Nat.le_of_ble_eq_true rfl)) dX9_back_10 ⟨(Nat.zero_le _), (Nat.zero_le _)⟩) (fun H locs hw => ?_)
  exact q_iret (v := out.1) (σ := out.2) rfl C0 hr hlk hw dX9_back_13
set_option maxHeartbeats 4000000 in
set_option maxRecDepth 100000 in
theorem kX9_backB {σ : q_M} {out : Int32 × q_M} {kb : Nat} (hk0 : mB N0 0) (hkb : mB N0 kb) (h0 : kb ≠ 0) (hs : kb < 2 ^ 31) (hkept : σ.1 0 19 = nI kb) (h : fX9_backB kb σ = some out) : q_Mi l (gM D cI cJ cR ad0 adK adV N0) yX9_back wsX9_back { frames := 1, cells := 0, slots := 0, locals := 22 } [.ref (ad0 0)] σ out := by
  refine q_Mi_of (cc := cX9_back) (maxL := 1) (ret := some .int) (by decide) rfl (Nat.le_of_ble_eq_true rfl) ?_
  intro p e s m below meth c ls C0 hr hlk hl hw
  obtain ⟨hx, hb, hml, hown, hts⟩ := id C0
  replace hl : lv_has ls 1 [(0, .ref (ad0 0))] := hl
  unfold fX9_backB at h
  refine lv_aload_n hx hb dX9_back_0 rfl (lv_at hl 0 rfl) ?_
  refine gt_X9_19 C0 hw hk0 iX9_back_X9 (by decide +kernel) dX9_back_1 ?_
  rw [hkept, mRn_nI h0 hs]
  refine lv_ifnonnull (tgt := 14) hx hb dX9_back_4 (by decide) ?_
  refine lv_aload_n hx hb dX9_back_14 rfl (lv_at hl 0 rfl) ?_
  refine lv_aload_n hx hb dX9_back_15 rfl (lv_at hl 0 rfl) ?_
  refine gt_X9_19 C0 hw hk0 iX9_back_X9 (by decide +kernel) dX9_back_16 ?_
  rw [hkept, mRn_nI h0 hs]
  obtain ⟨o, hc5, h⟩ := q_bind h
  refine q_callv hw (va_runV (As := [.ref (ad0 kb)]) (rest := []) C0 (kX9_takeFrom hk0 hkb hc5 _) (cwV 1 hts gX9_back_X9_takeFrom rfl rfl rfl eX9_takeFrom_ ⟨(Nat.le_of_ble_eq_true rfl), (Nat.le_of_ble_eq_true rfl)⟩) ⟨q_blind, q_recv hw (mN_0 hk0) (mE_0 hk0) rfl, q_pre hw⟩ rfl rfl hl.1 rfl (lv_room (Nat.le_of_ble_eq_true rfl)) dX9_back_19 ⟨(Nat.zero_le _), (Nat.zero_le _)⟩) (fun H locs hw => ?_)
  refine lv_iconst (v := (1 : Int32)) hx hb dX9_back_22 (by decide) ?_
  exact q_iret h C0 hr hlk hw dX9_back_23
end
