/-! Constructors: worlds that grow, as lists of cells. -/
def z_Z (adK adV : Nat → Nat) (A : Nat → Prop) (s : State) : Prop :=
  (∀ i, i < 9 → vk_R RX4 (q_s4 i) (q_sx i) (adK i) s ∧ vk_R RX9 (q_s9 i) (q_sx i) (adK i) s) ∧ vk_S 9 q_len q_byt adK adV A s s.heap ∧ va_Z "java/lang/String" "COMPACT_STRINGS" "Z" (.int 1) A s s.heap ∧ va_Zq "jdk/internal/util/Preconditions" "SIOOBE_FORMATTER" "Ljava/util/function/BiFunction;" A s s.heap
theorem z_Z_call {adK adV : Nat → Nat} {A B : Nat → Prop} {s U : State} {H : Heap} {locs : List Loc} (h : z_Z adK adV A s) (hS : va_S A s.heap H locs) (hAB : ∀ q, B q → A q) (hU : U.heap = H) (hW : s.WarmedH U.vm) : z_Z adK adV B U := by
  refine ⟨fun i hi => ⟨vk_R.warm hW (h.1 i hi).1, vk_R.warm hW (h.1 i hi).2⟩, ?_, ?_, ?_⟩
  · rw [hU]
    exact vk_S.moved hW.alike ((h.2.1.kept hS.2.1).narrow hAB)
  · rw [hU]
    exact va_Z.moved hW.alike ((h.2.2.1.kept hS.2.1).narrow hAB)
  · rw [hU]
    exact va_Zq.moved hW.alike ((h.2.2.2.kept hS.2.1).narrow hAB)
theorem z_Z_blind {adK adV : Nat → Nat} {A : Nat → Prop} {U : State} {gg : JFrame} {mk : MethodId} {a : Array Value} (h : z_Z adK adV A U) : z_Z adK adV A (U.calling gg mk a) :=
  ⟨fun i hi => ⟨vk_R.same rfl (h.1 i hi).1, vk_R.same rfl (h.1 i hi).2⟩, vk_S.moved (u := U) (U := U.calling gg mk a) (Vm.Alike.refl U.vm) h.2.1, va_Z.moved (u := U) (U := U.calling gg mk a) (Vm.Alike.refl U.vm) h.2.2.1, va_Zq.moved (u := U) (U := U.calling gg mk a) (Vm.Alike.refl U.vm) h.2.2.2⟩
/-- what the constructors need of the tables beside their words -/
def va_AOA (ty : FieldType) (U : State) : Prop := (Cond.arrayOver (.array ty)).before #[] U = true
theorem va_AOA.use {ty : FieldType} {A : Array Value} {U : State} (h : va_AOA ty U) : (Cond.arrayOver (.array ty)).before A U = true := h
def c_N (U : State) : Prop := va_Nw (.methodLinkNest RX8 34 yX7_init RX8) U ∧ va_Nw (.methodLinkNest RX8 41 yX1_init RX8) U ∧ va_Nw (.methodLinkNest RX8 63 yX6_init RX8) U ∧ va_Nw (.methodLinkNest RX6 17 yX5_init RX8) U ∧ va_Nw (.methodLinkNest RX6 24 yX3_init RX8) U ∧ va_AO RX6 U
theorem c_N_call {s U : State} (h : c_N s) (hW : s.WarmedH U.vm) : c_N U := ⟨va_Nw.warmM hW h.1, va_Nw.warmM hW h.2.1, va_Nw.warmM hW h.2.2.1, va_Nw.warmM hW h.2.2.2.1, va_Nw.warmM hW h.2.2.2.2.1, va_AO.moved hW.alike h.2.2.2.2.2⟩
theorem c_N_blind {U : State} {gg : JFrame} {mk : MethodId} {a : Array Value} (h : c_N U) : c_N (U.calling gg mk a) := ⟨va_Nw.same rfl rfl h.1, va_Nw.same rfl rfl h.2.1, va_Nw.same rfl rfl h.2.2.1, va_Nw.same rfl rfl h.2.2.2.1, va_Nw.same rfl rfl h.2.2.2.2.1, va_AO.moved (u := U) (U := U.calling gg mk a) (Vm.Alike.refl U.vm) h.2.2.2.2.2⟩
def c_H (D : va_G) (tys : List (ClassId × FieldType)) (adK adV : Nat → Nat) (A : Nat → Prop) (s : State) (ws : va_W) (H : Heap) (locs : List Loc) : Prop :=
  va_K D vwCl tys s ∧ va_P D vwCl ws H ∧ va_D A ws ∧ va_S A s.heap H locs ∧ (∀ q, s.heap.size ≤ q → A q) ∧ z_Z adK adV A s
def c_A (h0 sz : Nat) : Nat → Prop := fun q => q = h0 ∨ sz ≤ q
def c_Pre (D : va_G) (tys : List (ClassId × FieldType)) (adK adV : Nat → Nat) (h0 sz : Nat) (e0 : va_E) (X : State → Prop) : State → Prop := fun U => U.heap.size = sz ∧ va_P D vwCl [(h0, e0)] U.heap ∧ va_K D vwCl tys U ∧ va_D (fun _ => True) [(h0, e0)] ∧ z_Z adK adV (c_A h0 sz) U ∧ X U
def c_Post (D : va_G) (tys : List (ClassId × FieldType)) (A : Nat → Prop) (ws : va_W) (t : State) : Prop := va_P D vwCl ws t.heap ∧ va_K D vwCl tys t ∧ va_D A ws
abbrev c_R (D : va_G) (tys : List (ClassId × FieldType)) (A : Nat → Prop) (h0 : Nat) (out : Nat → (Nat → Nat) → va_W) : Array Value → State → Outcome → State → Prop := va_Qv (fun (_ : Nat → Nat) => True) (fun ad t => c_Post D tys A (out h0 ad) t) A
/-- a constructor's contract: the object alone becomes the cells of out -/
def c_M (l : Launch) (D : va_G) (tys : List (ClassId × FieldType)) (adK adV : Nat → Nat) (y : MethodName) (ws : List Cond) (rm : Room) (X : State → Prop) (e0 : va_E) (out : Nat → (Nat → Nat) → va_W) (mc ms : Nat) : Prop :=
  ∀ h0 sz : Nat, Met l y ws rm (va_Pc [.ref h0] (c_Pre D tys adK adV h0 sz e0 X)) (c_R D tys (c_A h0 sz) h0 out) mc ms (c_A h0 sz)
theorem c_blind {D : va_G} {tys : List (ClassId × FieldType)} {adK adV : Nat → Nat} {h0 sz : Nat} {e0 : va_E} {X : State → Prop} {As : List Value} (hX : ∀ (U : State) (gg : JFrame) (mk : MethodId) (a : Array Value), X U → X (U.calling gg mk a)) : FrameBlind (va_Pc As (c_Pre D tys adK adV h0 sz e0 X)) := fun a U gg mk q => by
  obtain ⟨q0, q1, qP, qK, qD, qZ, qX⟩ := q
  exact ⟨q0, q1, qP, va_K.moved (u := U) (U := U.calling gg mk a) (Vm.Alike.refl U.vm) qK, qD, z_Z_blind qZ, hX _ _ _ _ qX⟩
theorem c_one {A : Nat → Prop} {h0 : Nat} {e0 : va_E} (h : A h0) : va_D A [(h0, e0)] := by
  refine ⟨fun i j p q hi hj _ => ?_, fun k q hk => ?_⟩
  · have h1 := (List.getElem?_eq_some_iff.mp hi).1
    have h2 := (List.getElem?_eq_some_iff.mp hj).1
    simp at h1 h2
    omega
  · have h1 := (List.getElem?_eq_some_iff.mp hk).1
    simp at h1
    subst h1
    cases hk
    exact h
/-- behind a constructor's call: the other cells stay -/
theorem c_join {A : Nat → Prop} {D : va_G} {cl : List vw_C} {w0 w1 : va_W} {q0 : Nat} {e0 : va_E} {H H1 : Heap} (hP : va_P D cl (w0 ++ [(q0, e0)]) H) (hD : va_D A (w0 ++ [(q0, e0)])) (hk : ∀ q : Nat, q < H.size → ¬ c_A q0 H.size q → H1[q]? = H[q]?) (hF : ∀ q, c_A q0 H.size q → A q) (hP1 : va_P D cl w1 H1) (hD1 : va_D (c_A q0 H.size) w1) : va_P D cl (w0 ++ w1) H1 ∧ va_D A (w0 ++ w1) := by
  have at0 : ∀ (k : Nat) (x : Nat × va_E), w0[k]? = some x → (w0 ++ [(q0, e0)])[k]? = some x := fun k x h => by
    rw [List.getElem?_append_left (List.getElem?_eq_some_iff.mp h).1]; exact h
  have atq : (w0 ++ [(q0, e0)])[w0.length]? = some (q0, e0) := by simp
  have apart : ∀ (k : Nat) (x : Nat × va_E), w0[k]? = some x → x.1 < H.size ∧ ¬ c_A q0 H.size x.1 := fun k x h => by
    have hl := (hP k x (at0 k x h)).lt
    refine ⟨hl, fun z => ?_⟩
    rcases z with z | z
    · have := hD.1 k w0.length x (q0, e0) (at0 k x h) atq z
      have h3 := (List.getElem?_eq_some_iff.mp h).1
      omega
    · omega
  refine ⟨va_P.app (fun k x h => (hP k x (at0 k x h)).kept (hk x.1 (apart k x h).1 (apart k x h).2)) hP1, ?_⟩
  refine va_D.app ⟨fun i j x y hi hj hxy => hD.1 i j x y (at0 i x hi) (at0 j y hj) hxy, fun k x h => hD.2 k x (at0 k x h)⟩ (hD1.weaken (fun k x _ h => hF x.1 h)) (fun i j x y hx hy hxy => (apart i x hx).2 (by rw [hxy]; exact hD1.2 j y hy))
section CW
variable {p : Program} {l : Launch} {e : Env} {R : Room} {s : State} {m : MethodId} {args : Array Value} {below : List Frame} {meth : Method} {c : Code} {H : Heap} {locs : List Loc} {cells slots : Nat} {Q : State → Prop}
variable {y : MethodName} {bytes cc : ByteArray} {maxL nL n index pc : Nat} {ret : Option FieldType} {ws ws' : List Cond} {rm : Room} {Ts : List Cond} {own C : String} {As rest : List Value} {ls : Array Slot}
variable {D : va_G} {tys : List (ClassId × FieldType)} {adK adV : Nat → Nat} {A : Nat → Prop} {w w0 : va_W} {st0 : List Value} {X : State → Prop}
theorem c_M_of {e0 : va_E} {out : Nat → (Nat → Nat) → va_W} {mc ms : Nat} (hy : plainName y.cls = true) (hn : y.name = "<init>") (hw : ws = Cond.code y cc maxL none :: ws') (hL : 1 ≤ maxL)
    (body : ∀ h0 p e s m below meth c ls, CallFix p m c cc maxL s [Value.ref h0].toArray ws y.cls → meth.sig.returnType = none → meth.locks = false → meth.name = "<init>" → lv_has ls maxL [(0, .ref h0)] → X s → c_H D tys adK adV (c_A h0 s.heap.size) s [(h0, e0)] s.heap [] → W p l e rm s m [Value.ref h0].toArray below meth c s.heap [] 0 0 (MQ below (c_R D tys (c_A h0 s.heap.size) h0 out) [Value.ref h0].toArray s mc ms (c_A h0 s.heap.size)) (F0 m 0 ls [])) : c_M l D tys adK adV y ws rm X e0 out mc ms := by
  intro h0 sz
  refine Met.ofW (cc := cc) (maxL := maxL) (ret := none) hy hw ?_
  intro p e s m args below meth c s₁ B hml hv
  obtain ⟨rfl, hsz, h1, h2, h3, h4, h5⟩ := hv
  subst hsz
  rw [lg_entry_eq]
  exact body h0 p e s m below meth c _ ⟨B.exec, B.bytes, hml, findClass_of_methodNamed B.named, atoms_spec (ws := ws) B.pre⟩ B.returns B.notSynchronized (by rw [(name_of_methodNamed B.named B.method).1]; exact hn) (lv_entry [.ref h0] (n := maxL) hL) h5 ⟨h2, h1, c_one (Or.inl rfl), va_S.rf, fun q h => Or.inr h, h4⟩
theorem c_sub {q0 : Nat} {e0 : va_E} (hw : c_H D tys adK adV A s (w0 ++ [(q0, e0)]) H locs) : ∀ q, c_A q0 H.size q → A q := by
  intro q h
  rcases h with rfl | h
  · exact hw.2.2.1.2 w0.length (_, e0) (by simp)
  · exact hw.2.2.2.2.1 q (Nat.le_trans hw.2.2.2.1.1 h)
theorem c_call {q0 : Nat} {e0 : va_E} {out : Nat → (Nat → Nat) → va_W} {mc ms : Nat} {a : Array Value} (hw : c_H D tys adK adV A s (w0 ++ [(q0, e0)]) H locs) (hr : va_Run p l e R s m args below meth c H locs cells slots mc ms (F0 m pc ls st0) rest (c_R D tys (c_A q0 H.size) q0 out a) (c_A q0 H.size))
    (kk : ∀ (ad : Nat → Nat) (H1 : Heap) (locs1 : List Loc), c_H D tys adK adV A s (w0 ++ out q0 ad) H1 locs1 → W p l e R s m args below meth c H1 locs1 (cells + mc) (slots + ms) Q (F0 m (pc + 3) ls rest)) : W p l e R s m args below meth c H locs cells slots Q (F0 m pc ls st0) :=
  va_callv hr hw.2.2.2.1 (fun q _ h => c_sub hw q h) (c_sub hw) (fun ad t H1 locs1 ht hvm _ hB hz hk hS => by
    obtain ⟨h1, h2, h3⟩ := hB
    rw [ht] at h1
    obtain ⟨hP, hD⟩ := c_join hw.2.1 hw.2.2.1 hk (c_sub hw) h1 h3
    exact kk ad H1 locs1 ⟨hw.1, hP, hD, hS, hw.2.2.2.2⟩)
theorem c_pre {q0 : Nat} {e0 : va_E} (hw : c_H D tys adK adV A s (w0 ++ [(q0, e0)]) H locs) (hX : ∀ U : State, s.WarmedH U.vm → X U) : ∀ U : State, U.heap = H → s.WarmedH U.vm → va_Pc [.ref q0] (c_Pre D tys adK adV q0 H.size e0 X) [Value.ref q0].toArray U := by
  intro U hU hW
  have hP1 : va_P D vwCl [(q0, e0)] H := by
    intro k x hx
    have h1 := (List.getElem?_eq_some_iff.mp hx).1
    simp at h1
    subst h1
    cases hx
    exact hw.2.1 w0.length _ (by simp)
  exact ⟨rfl, by rw [hU], by rw [hU]; exact hP1, va_K.moved hW.alike hw.1, c_one trivial, z_Z_call hw.2.2.2.2.2 hw.2.2.2.1 (c_sub hw) hU hW, hX U hW⟩
/-- arrays of known classes -/
theorem c_newi {cI : ClassId} {t0 N' : Nat} {n : Int32} (C0 : CallFix p m c cc nL s args Ts own) (hw : c_H D tys adK adV A s w H locs) (ht : tys[t0]? = some (cI, .int)) (harr : Cond.arrayClass .int ∈ Ts) (hn : ¬ n < 0) (hN : n.toNatClampNeg = N') (hbytes : N' * 4 ≤ 536870912) (hcells : cells + 1 ≤ R.cells) (hslots : slots + N' ≤ R.slots) (hdg : decode cc pc = .ok (.newarray .int, 2))
    (kk : ∀ (q : Nat) (H1 : Heap), c_H D tys adK adV A s (w ++ [(q, .inl (cI, N', .inl (fun _ => 0)))]) H1 locs → W p l e R s m args below meth c H1 locs (cells + 1) (slots + N') Q (F0 m (pc + 2) ls (.ref q :: rest))) : W p l e R s m args below meth c H locs cells slots Q (F0 m pc ls (.int n :: rest)) := by
  refine va_newa (atype := .int) (ty := .int) (a0 := (N', .inl (fun _ => 0))) C0.1 C0.2.1 (C0.2.2.2.2 _ harr) rfl hw.1 hw.2.1 hw.2.2.1 hw.2.2.2.1 hw.2.2.2.2.1 (fun _ => rfl) hn hN hbytes hcells hslots hdg (fun q cA H1 hK hP hD hS => ?_)
  have e1 : some cA = some cI := (hK.2 tys.length (cA, .int) (by simp)).2.symm.trans (hw.1.2 t0 _ ht).2
  cases e1
  exact kk q H1 ⟨hw.1, hP, hD, hS, hw.2.2.2.2⟩
theorem c_newl {cJ : ClassId} {t0 N' : Nat} {n : Int32} (C0 : CallFix p m c cc nL s args Ts own) (hw : c_H D tys adK adV A s w H locs) (ht : tys[t0]? = some (cJ, .long)) (harr : Cond.arrayClass .long ∈ Ts) (hn : ¬ n < 0) (hN : n.toNatClampNeg = N') (hbytes : N' * 8 ≤ 536870912) (hcells : cells + 1 ≤ R.cells) (hslots : slots + N' ≤ R.slots) (hdg : decode cc pc = .ok (.newarray .long, 2))
    (kk : ∀ (q : Nat) (H1 : Heap), c_H D tys adK adV A s (w ++ [(q, .inl (cJ, N', .inr (.inl (fun _ => 0))))]) H1 locs → W p l e R s m args below meth c H1 locs (cells + 1) (slots + N') Q (F0 m (pc + 2) ls (.ref q :: rest))) : W p l e R s m args below meth c H locs cells slots Q (F0 m pc ls (.int n :: rest)) := by
  refine va_newa (atype := .long) (ty := .long) (a0 := (N', .inr (.inl (fun _ => 0)))) C0.1 C0.2.1 (C0.2.2.2.2 _ harr) rfl hw.1 hw.2.1 hw.2.2.1 hw.2.2.2.1 hw.2.2.2.2.1 (fun _ => rfl) hn hN hbytes hcells hslots hdg (fun q cA H1 hK hP hD hS => ?_)
  have e1 : some cA = some cJ := (hK.2 tys.length (cA, .long) (by simp)).2.symm.trans (hw.1.2 t0 _ ht).2
  cases e1
  exact kk q H1 ⟨hw.1, hP, hD, hS, hw.2.2.2.2⟩
theorem c_newo {T : u_T} {N ci : Nat} {fs : List Value} (C0 : CallFix p m c cc nL s args Ts own) (hw : c_H D tys adK adV A s w H locs) (hc : vwCl[ci]? = some (C, T, N)) (hin : ∀ w ∈ u_ws C T N, w ∈ Ts) (ty : Nat → FieldType) (hty : ∀ k, k < N → parseFieldDescriptor (T k).2.2.1 = some (ty k)) (hcl : Cond.classLink own index C ∈ Ts) (hinst : Cond.instantiable C N ∈ Ts) (hini : Cond.initialized C ∈ Ts) (hfs : ∀ j, j < N → defaultValue (ty j) = vp_V fs j) (hcells : cells + 1 ≤ R.cells) (hslots : slots + N ≤ R.slots) (hdg : decode cc pc = .ok (.new index, 3))
    (kk : ∀ (q : Nat) (H1 : Heap), c_H D tys adK adV A s (w ++ [(q, .inr (ci, fs))]) H1 locs → W p l e R s m args below meth c H1 locs (cells + 1) (slots + N) Q (F0 m (pc + 3) ls (.ref q :: rest))) : W p l e R s m args below meth c H locs cells slots Q (F0 m pc ls rest) :=
  va_new C0.1 C0.2.1 C0.2.2.2.2 hin ty hty C0.2.2.2.1 (C0.2.2.2.2 _ hcl) (C0.2.2.2.2 _ hinst) (C0.2.2.2.2 _ hini) hw.1 hw.2.1 hw.2.2.1 hw.2.2.2.1 hw.2.2.2.2.1 hc hfs hcells hslots hdg (fun q H1 hP hD hS => kk q H1 ⟨hw.1, hP, hD, hS, hw.2.2.2.2⟩)
theorem c_newq {cS : ClassId} {t0 N' : Nat} {n : Int32} (C0 : CallFix p m c cc nL s args Ts own) (hw : c_H D tys adK adV A s w H locs) (ht : tys[t0]? = some (cS, .object C)) (hcl : Cond.classLink own index C ∈ Ts) (hover : va_AO C s) (hn : ¬ n < 0) (hN : n.toNatClampNeg = N') (hbytes : N' * 4 ≤ 536870912) (hcells : cells + 1 ≤ R.cells) (hslots : slots + N' ≤ R.slots) (hdg : decode cc pc = .ok (.anewarray index, 3))
    (kk : ∀ (q : Nat) (H1 : Heap), c_H D tys adK adV A s (w ++ [(q, .inl (cS, N', .inr (.inr (.inr (.inr (fun _ => none))))))]) H1 locs → W p l e R s m args below meth c H1 locs (cells + 1) (slots + N') Q (F0 m (pc + 3) ls (.ref q :: rest))) : W p l e R s m args below meth c H locs cells slots Q (F0 m pc ls (.int n :: rest)) := by
  refine va_newq C0.1 C0.2.1 C0.2.2.2.1 (C0.2.2.2.2 _ hcl) hover hw.1 hw.2.1 hw.2.2.1 hw.2.2.2.1 hw.2.2.2.2.1 hn hN hbytes hcells hslots hdg (fun q cA H1 hK hP hD hS => ?_)
  obtain ⟨-, -, -, -, -, g1⟩ := (hK.2 tys.length (cA, .object C) (by simp)).2
  obtain ⟨-, -, -, -, -, g2⟩ := (hw.1.2 t0 _ ht).2
  have e1 : some cA = some cS := g1.symm.trans g2
  cases e1
  exact kk q H1 ⟨hw.1, hP, hD, hS, hw.2.2.2.2⟩
/-- fields -/
theorem c_get {T : u_T} {N ci k j a : Nat} {fs : List Value} {ref : String} {v : Value} (C0 : CallFix p m c cc nL s args Ts own) (hw : c_H D tys adK adV A s w H locs) (hE : w[k]? = some (a, .inr (ci, fs))) (hc : vwCl[ci]? = some (C, T, N)) (hin : ∀ w ∈ u_ws C T N, w ∈ Ts) (hj : j < N) (hlink : Cond.fieldLink own index ref (T j).2.1 (T j).2.2.1 ∈ Ts) (href : (T j).1 = ref) (hv : fs[j]? = some v) (hdg : decode cc pc = .ok (.getfield index, 3))
    (kk : W p l e R s m args below meth c H locs cells slots Q (F0 m (pc + 3) ls (v :: rest))) : W p l e R s m args below meth c H locs cells slots Q (F0 m pc ls (.ref a :: rest)) := by
  subst href
  exact va_get C0.1 C0.2.1 C0.2.2.2.2 hin C0.2.2.2.1 hw.1 hw.2.1 k hE hc j hj (C0.2.2.2.2 _ hlink) (fun _ h => h) hv hdg kk
theorem c_put {T : u_T} {N ci k j a : Nat} {fs : List Value} {ref : String} {v : Value} {ty : FieldType} (C0 : CallFix p m c cc nL s args Ts own) (hw : c_H D tys adK adV A s w H locs) (hE : w[k]? = some (a, .inr (ci, fs))) (hc : vwCl[ci]? = some (C, T, N)) (hin : ∀ w ∈ u_ws C T N, w ∈ Ts) (ty0 : Nat → FieldType) (hty : ∀ k, k < N → parseFieldDescriptor (T k).2.2.1 = some (ty0 k)) (hnm : ∀ a, a < N → ∀ b, b < N → a ≠ b → (T a).2.1 ≠ (T b).2.1) (hj : j < N) (hlink : Cond.fieldLink own index ref (T j).2.1 (T j).2.2.1 ∈ Ts) (href : (T j).1 = ref) (hfin : (T j).2.2.2 = false) (hd : parseFieldDescriptor (T j).2.2.1 = some ty) (hn : narrow ty v = v) (hfit : fits ty v = true) (hl : j < fs.length) (hdg : decode cc pc = .ok (.putfield index, 3))
    (kk : ∀ (H1 : Heap) (locs1 : List Loc), c_H D tys adK adV A s (w.set k (a, .inr (ci, fs.set j v))) H1 locs1 → W p l e R s m args below meth c H1 locs1 cells slots Q (F0 m (pc + 3) ls rest)) : W p l e R s m args below meth c H locs cells slots Q (F0 m pc ls (v :: .ref a :: rest)) := by
  subst href
  exact va_put C0.1 C0.2.1 C0.2.2.2.2 hin ty0 hty hnm C0.2.2.2.1 hw.1 hw.2.1 hw.2.2.1 hw.2.2.2.1 k hE hc j hj (C0.2.2.2.2 _ hlink) (fun _ h => h) hfin hd hn hfit hl hdg (fun H1 locs1 hP hD hS => kk H1 locs1 ⟨hw.1, hP, hD, hS, hw.2.2.2.2⟩)
theorem c_putF {T : u_T} {N ci k j a : Nat} {fs : List Value} {ref : String} {v : Value} {ty : FieldType} (C0 : CallFix p m c cc nL s args Ts own) (hin2 : meth.name = "<init>") (hw : c_H D tys adK adV A s w H locs) (hE : w[k]? = some (a, .inr (ci, fs))) (hc : vwCl[ci]? = some (C, T, N)) (hin : ∀ w ∈ u_ws C T N, w ∈ Ts) (ty0 : Nat → FieldType) (hty : ∀ k, k < N → parseFieldDescriptor (T k).2.2.1 = some (ty0 k)) (hnm : ∀ a, a < N → ∀ b, b < N → a ≠ b → (T a).2.1 ≠ (T b).2.1) (hj : j < N) (hlink : Cond.fieldLink own index ref (T j).2.1 (T j).2.2.1 ∈ Ts) (href : (T j).1 = ref) (hfin : (T j).2.2.2 = true) (hdecl : (T j).1 = own) (hd : parseFieldDescriptor (T j).2.2.1 = some ty) (hn : narrow ty v = v) (hfit : fits ty v = true) (hl : j < fs.length) (hdg : decode cc pc = .ok (.putfield index, 3))
    (kk : ∀ (H1 : Heap) (locs1 : List Loc), c_H D tys adK adV A s (w.set k (a, .inr (ci, fs.set j v))) H1 locs1 → W p l e R s m args below meth c H1 locs1 cells slots Q (F0 m (pc + 3) ls rest)) : W p l e R s m args below meth c H locs cells slots Q (F0 m pc ls (v :: .ref a :: rest)) := by
  subst href
  exact va_putF C0.1 C0.2.1 C0.2.2.2.2 hin ty0 hty hnm C0.2.2.2.1 hw.1 hw.2.1 hw.2.2.1 hw.2.2.2.1 k hE hc j hj (C0.2.2.2.2 _ hlink) (fun _ h => h) hfin hin2 hdecl hd hn hfit hl hdg (fun H1 locs1 hP hD hS => kk H1 locs1 ⟨hw.1, hP, hD, hS, hw.2.2.2.2⟩)
theorem c_last {k t0 a : Nat} {cA : ClassId} {n : Nat} {f : Nat → Int64} {i : Int32} {x : Int64} (C0 : CallFix p m c cc nL s args Ts own) (hw : c_H D tys adK adV A s w H locs) (hE : w[k]? = some (a, .inl (cA, n, .inr (.inl f)))) (ht : tys[t0]? = some (cA, .long)) (hin : vp_in i n) (hdg : decode cc pc = .ok (.lastore, 1))
    (kk : ∀ (H1 : Heap) (locs1 : List Loc), c_H D tys adK adV A s (w.set k (a, .inl (cA, n, .inr (.inl (vp_updL f i.toNatClampNeg x))))) H1 locs1 → W p l e R s m args below meth c H1 locs1 cells slots Q (F0 m (pc + 1) ls rest)) : W p l e R s m args below meth c H locs cells slots Q (F0 m pc ls (.long x :: .int i :: .ref a :: rest)) :=
  va_last C0.1 C0.2.1 hw.1 hw.2.1 hw.2.2.1 hw.2.2.2.1 k t0 hE ht hin hdg (fun H1 locs1 hP hD hS => kk H1 locs1 ⟨hw.1, hP, hD, hS, hw.2.2.2.2⟩)
theorem c_astq {k t0 kv ci a v : Nat} {cA : ClassId} {r : vw_C} {n : Nat} {vs : List Value} {f : Nat → Option Nat} {i : Int32} (C0 : CallFix p m c cc nL s args Ts own) (hw : c_H D tys adK adV A s w H locs) (hE : w[k]? = some (a, .inl (cA, n, .inr (.inr (.inr (.inr f)))))) (ht : tys[t0]? = some (cA, .object r.1)) (hv : w[kv]? = some (v, .inr (ci, vs))) (hc : vwCl[ci]? = some r) (hin : vp_in i n) (hdg : decode cc pc = .ok (.aastore, 1))
    (kk : ∀ (H1 : Heap) (locs1 : List Loc), c_H D tys adK adV A s (w.set k (a, .inl (cA, n, .inr (.inr (.inr (.inr (va_up f i.toNatClampNeg (some v)))))))) H1 locs1 → W p l e R s m args below meth c H1 locs1 cells slots Q (F0 m (pc + 1) ls rest)) : W p l e R s m args below meth c H locs cells slots Q (F0 m pc ls (.ref v :: .int i :: .ref a :: rest)) :=
  va_astq C0.1 C0.2.1 hw.1 hw.2.1 hw.2.2.1 hw.2.2.2.1 k t0 kv ci hE ht hv hc hin hdg (fun H1 locs1 hP hD hS => kk H1 locs1 ⟨hw.1, hP, hD, hS, hw.2.2.2.2⟩)
theorem c_alen {k t0 a : Nat} {cA : ClassId} {x : vp_A} {ty : FieldType} {v : Int32} (C0 : CallFix p m c cc nL s args Ts own) (hw : c_H D tys adK adV A s w H locs) (hE : w[k]? = some (a, .inl (cA, x))) (ht : tys[t0]? = some (cA, ty)) (hv : Int32.ofNat x.1 = v) (hdg : decode cc pc = .ok (.arraylength, 1))
    (kk : W p l e R s m args below meth c H locs cells slots Q (F0 m (pc + 1) ls (.int v :: rest))) : W p l e R s m args below meth c H locs cells slots Q (F0 m pc ls (.ref a :: rest)) :=
  va_alen C0.1 C0.2.1 hw.1 hw.2.1 k t0 hE ht hv hdg kk
theorem c_vret {out : Nat → (Nat → Nat) → va_W} {h0 : Nat} (ad : Nat → Nat) (C0 : CallFix p m c cc nL s args Ts own) (hr : meth.sig.returnType = none) (hlocks : meth.locks = false) (hw : c_H D tys adK adV (c_A h0 s.heap.size) s (out h0 ad) H locs) (hdg : decode cc pc = .ok (.return_, 1)) :
    W p l e R s m args below meth c H locs cells slots (MQ below (c_R D tys (c_A h0 s.heap.size) h0 out) args s cells slots (c_A h0 s.heap.size)) (F0 m pc ls []) := by
  obtain ⟨hK, hP, hD, hS, -⟩ := hw
  exact W.vret C0.1 C0.2.1 hr (fun t ht hW => ⟨⟨ad, rfl, trivial, by rw [ht]; exact hP, va_K.moved hW.alike hK, hD⟩, hS.F ht⟩) hS.2.2 hdg
end CW
