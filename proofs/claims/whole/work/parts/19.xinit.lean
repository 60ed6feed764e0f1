theorem fm_congr {α β : Type} {f g : α → List β} : ∀ {l : List α}, (∀ a, a ∈ l → f a = g a) → l.flatMap f = l.flatMap g
  | [], _ => rfl
  | a :: l, h => by
    rw [List.flatMap_cons, List.flatMap_cons, h a List.mem_cons_self, fm_congr (fun b hb => h b (List.mem_cons_of_mem _ hb))]
/-- an array of references by another function that agrees -/
theorem arrV_congr {cA : ClassId} {n : Nat} {f g : Nat → Value} (h : ∀ j, j < n → f j = g j) : arrV cA n f = arrV cA n g := by
  unfold arrV
  congr 1
  congr 1
  funext j
  exact h j.val j.isLt
theorem c_reA {D : va_G} {tys : List (ClassId × FieldType)} {adK adV : Nat → Nat} {A : Nat → Prop} {s : State} {w : va_W} {H : Heap} {locs : List Loc} {k a n : Nat} {cA : ClassId} {f f' : Nat → Option Nat} (hw : c_H D tys adK adV A s w H locs) (hE : w[k]? = some (a, .inl (cA, n, .inr (.inr (.inr (.inr f)))))) (hf : ∀ j, j < n → f j = f' j) : c_H D tys adK adV A s (w.set k (a, .inl (cA, n, .inr (.inr (.inr (.inr f')))))) H locs := by
  refine ⟨hw.1, hw.2.1.set hw.2.2.1 hE ?_ (fun _ _ => rfl), hw.2.2.1.set hE, hw.2.2.2.1, hw.2.2.2.2⟩
  have h1 : H[a]? = some (vp_cell cA (n, .inr (.inr (.inr (.inr f))))) := hw.2.1 k _ hE
  show H[a]? = some (vp_cell cA (n, .inr (.inr (.inr (.inr f')))))
  rw [h1, vp_cell_q, vp_cell_q]
  congr 1
  exact arrV_congr (fun j hj => by rw [hf j hj])
theorem c_H_eq {D : va_G} {tys : List (ClassId × FieldType)} {adK adV : Nat → Nat} {A : Nat → Prop} {s : State} {w w' : va_W} {H : Heap} {locs : List Loc} (h : w = w') (hw : c_H D tys adK adV A s w H locs) : c_H D tys adK adV A s w' H locs := h ▸ hw
section
variable {l : Launch} {D : va_G} {cI cJ cS : ClassId} {adK adV : Nat → Nat}
theorem iX8_init_X8 : ∀ w ∈ wsX80, w ∈ wsX8_init := by decide +kernel
theorem iX8_init_X2 : ∀ w ∈ wsX20, w ∈ wsX8_init := by decide +kernel
theorem iX8_init_X7 : ∀ w ∈ wsX70, w ∈ wsX8_init := by decide +kernel
theorem iX8_init_X1 : ∀ w ∈ wsX10, w ∈ wsX8_init := by decide +kernel
theorem iX8_init_X6 : ∀ w ∈ wsX60, w ∈ wsX8_init := by decide +kernel
def xAr (cS : ClassId) (qs : Nat) (f : Nat → Option Nat) : Nat × va_E := (qs, .inl (cS, 8, .inr (.inr (.inr (.inr f)))))
def xSl (cJ : ClassId) (Q : Nat → Nat) (AS : Nat → Nat → Nat) (n : Nat) : va_W := (List.range n).flatMap (fun i => oS cJ (Q i) (AS i))
def xLw (cJ cS : ClassId) (w : va_W) (qs : Nat) (Q : Nat → Nat) (AS : Nat → Nat → Nat) (n : Nat) : va_W := w.set 22 (xAr cS qs (fun i => if i < n then some (Q i) else none)) ++ xSl cJ Q AS n
theorem xSl_len (cJ : ClassId) (Q : Nat → Nat) (AS : Nat → Nat → Nat) : ∀ n, (xSl cJ Q AS n).length = 4 * n
  | 0 => rfl
  | n + 1 => by
    have ih := xSl_len cJ Q AS n
    unfold xSl at ih ⊢
    rw [List.range_succ, List.flatMap_append, List.length_append, ih]
    simp [oS]
    omega
theorem xLw_0 {cJ cS : ClassId} {w : va_W} {qs : Nat} {Q : Nat → Nat} {AS : Nat → Nat → Nat} {n : Nat} {T : va_W} {x : Nat × va_E} (hl : w.length = 31) (h : w[0]? = some x) : (xLw cJ cS w qs Q AS n ++ T)[0]? = some x := by
  unfold xLw
  rw [List.append_assoc, List.getElem?_append_left (by simp [hl]), List.getElem?_set_ne (by decide)]
  exact h
theorem xLw_22 {cJ cS : ClassId} {w : va_W} {qs : Nat} {Q : Nat → Nat} {AS : Nat → Nat → Nat} {n : Nat} {T : va_W} (hl : w.length = 31) : (xLw cJ cS w qs Q AS n ++ T)[22]? = some (xAr cS qs (fun i => if i < n then some (Q i) else none)) := by
  unfold xLw
  rw [List.append_assoc, List.getElem?_append_left (by simp [hl]), List.getElem?_set_self (by omega)]
theorem xLw_set {cJ cS : ClassId} {w : va_W} {qs : Nat} {Q : Nat → Nat} {AS : Nat → Nat → Nat} {n : Nat} {q : Nat} {as : Nat → Nat} (hl : w.length = 31) : (xLw cJ cS w qs Q AS n ++ oS cJ q as).set 22 (xAr cS qs (va_up (fun i => if i < n then some (Q i) else none) n (some q))) = xLw cJ cS w qs (va_up Q n q) (va_up AS n as) (n + 1) := by
  unfold xLw
  rw [List.append_assoc, List.set_append_left _ _ (by simp [hl]), List.set_set]
  have e1 : (va_up (fun i => if i < n then some (Q i) else none) n (some q) : Nat → Option Nat) = fun i => if i < n + 1 then some (va_up Q n q i) else none := by
    funext i
    by_cases h : i = n
    · subst h; simp [va_up]
    · by_cases h2 : i < n
      · simp [va_up, h, h2, Nat.lt_succ_of_lt h2]
      · simp [va_up, h, h2, show ¬ i < n + 1 by omega]
  have e2 : xSl cJ (va_up Q n q) (va_up AS n as) (n + 1) = xSl cJ Q AS n ++ oS cJ q as := by
    unfold xSl
    rw [List.range_succ, List.flatMap_append]
    congr 1
    · apply fm_congr
      intro i hi
      have : i ≠ n := by have := List.mem_range.mp hi; omega
      simp [va_up, this]
    · simp [va_up]
  rw [e1, e2]
set_option maxHeartbeats 8000000 in
set_option maxRecDepth 100000 in
theorem xLoop {p : Program} {e : Env} {s : State} {m : MethodId} {below : List Frame} {meth : Method} {c : Code} {h0 qs : Nat} {Q0 : State → Prop} {w : va_W} {fs : List Value} (C0 : CallFix p m c cX8_init 2 s [Value.ref h0].toArray wsX8_init RX8) (hX : c_N s) (hlen : w.length = 31) (hw0 : w[0]? = some (h0, .inr (7, fs))) (hfs : fs[4]? = some (.ref qs))
    (kk : ∀ (Q : Nat → Nat) (AS : Nat → Nat → Nat) (H : Heap) (locs : List Loc) (ls : Array Slot), c_H D (tyX_ cI cJ cS) adK adV (c_A h0 s.heap.size) s (xLw cJ cS w qs Q AS 8) H locs → W p l e { frames := 4, cells := 62, slots := 832, locals := 90 } s m [Value.ref h0].toArray below meth c H locs 62 832 Q0 (F0 m 136 ls [])) :
    ∀ (d n : Nat) (Q : Nat → Nat) (AS : Nat → Nat → Nat) (H : Heap) (locs : List Loc) (ls : Array Slot), n + d = 8 → c_H D (tyX_ cI cJ cS) adK adV (c_A h0 s.heap.size) s (xLw cJ cS w qs Q AS n) H locs → lv_has ls 2 [(1, .int (nI n)), (0, .ref h0)] → W p l e { frames := 4, cells := 62, slots := 832, locals := 90 } s m [Value.ref h0].toArray below meth c H locs (30 + 4 * n) (440 + 49 * n) Q0 (F0 m 108 ls []) := by
  obtain ⟨hx, hb, hml, hown, hts⟩ := id C0
  intro d
  induction d with
  | zero =>
    intro n Q AS H locs ls hn hw hl
    obtain rfl : n = 8 := by omega
    refine lv_iload_n hx hb dX8_init_108 rfl (lv_at hl 0 rfl) ?_
    refine lv_aload_n hx hb dX8_init_109 rfl (lv_at hl 1 rfl) ?_
    refine c_get (k := 0) (j := 4) C0 hw (by have := xLw_0 (cJ := cJ) (cS := cS) (qs := qs) (Q := Q) (AS := AS) (n := 8) (T := []) hlen hw0; rwa [List.append_nil] at this) rfl iX8_init_X8 (by decide) (by decide +kernel) rfl hfs dX8_init_110 ?_
    refine c_alen (k := 22) (t0 := 2) (v := (8 : Int32)) C0 hw (by have := xLw_22 (cJ := cJ) (cS := cS) (qs := qs) (Q := Q) (AS := AS) (n := 8) (T := []) hlen; rwa [List.append_nil] at this) rfl rfl dX8_init_113 ?_
    refine lv_icmp_ge (tgt := 136) hx hb dX8_init_114 (by decide) (fun _ => ?_) (fun z => absurd (by decide) z)
    exact kk Q AS H locs ls hw
  | succ d ih =>
    intro n Q AS H locs ls hn hw hl
    have hn8 : n < 8 := by omega
    refine lv_iload_n hx hb dX8_init_108 rfl (lv_at hl 0 rfl) ?_
    refine lv_aload_n hx hb dX8_init_109 rfl (lv_at hl 1 rfl) ?_
    refine c_get (k := 0) (j := 4) C0 hw (by have := xLw_0 (cJ := cJ) (cS := cS) (qs := qs) (Q := Q) (AS := AS) (n := n) (T := []) hlen hw0; rwa [List.append_nil] at this) rfl iX8_init_X8 (by decide) (by decide +kernel) rfl hfs dX8_init_110 ?_
    refine c_alen (k := 22) (t0 := 2) (v := (8 : Int32)) C0 hw (by have := xLw_22 (cJ := cJ) (cS := cS) (qs := qs) (Q := Q) (AS := AS) (n := n) (T := []) hlen; rwa [List.append_nil] at this) rfl rfl dX8_init_113 ?_
    refine lv_icmp_ge (tgt := 136) hx hb dX8_init_114 (by decide) (fun z => absurd z (nI_ge (b := 8) hn8 (by decide))) (fun _ => ?_)
    refine lv_aload_n hx hb dX8_init_117 rfl (lv_at hl 1 rfl) ?_
    refine c_get (k := 0) (j := 4) C0 hw (by have := xLw_0 (cJ := cJ) (cS := cS) (qs := qs) (Q := Q) (AS := AS) (n := n) (T := []) hlen hw0; rwa [List.append_nil] at this) rfl iX8_init_X8 (by decide) (by decide +kernel) rfl hfs dX8_init_118 ?_
    refine lv_iload_n hx hb dX8_init_121 rfl (lv_at hl 0 rfl) ?_
    refine c_newo (ci := 5) (fs := [.int 0, .null, .null]) C0 hw rfl iX8_init_X6 tyX6 tyX6_ok (by decide +kernel) (by decide +kernel) (by decide +kernel) (fun j hj => by rcases (show j = 0 ∨ j = 1 ∨ j = 2 by omega) with rfl | rfl | rfl <;> rfl) (show 30 + 4 * n + 1 ≤ 62 by omega) (show 440 + 49 * n + 3 ≤ 832 by omega) dX8_init_122 (fun q H hw => ?_)
    refine lv_dup hx hb dX8_init_125 rfl ?_
    refine c_call hw (va_runIN (As := []) (rest := [.ref q, .int (nI n), .ref qs]) C0 (kX6_init _ _) ⟨va_cnB (host := RX8) 0 hts gX8_init_X6_init_n63 rfl rfl rfl hX.2.2.1 (hts (.initialized RX6) (by decide +kernel)) ⟨by decide +kernel, by decide +kernel, by decide +kernel⟩ ⟨(Nat.le_of_ble_eq_true rfl), (Nat.le_of_ble_eq_true rfl)⟩, rfl, hts (.instanceMethod yX6_init) (by decide +kernel)⟩ ⟨c_blind (fun _ _ _ _ h => c_N_blind h), c_pre hw (fun U hW => c_N_call hX hW)⟩ rfl rfl hl.1 rfl (lv_room (Nat.le_of_ble_eq_true rfl)) dX8_init_126 ⟨show 30 + 4 * n + 1 + 3 ≤ 62 by omega, show 440 + 49 * n + 3 + 46 ≤ 832 by omega⟩) (fun as H locs hw => ?_)
    refine c_astq (k := 22) (t0 := 2) (kv := (xLw cJ cS w qs Q AS n).length) (ci := 5) (i := nI n) C0 hw (xLw_22 hlen) rfl (by rw [List.getElem?_append_right (Nat.le_refl _), Nat.sub_self]; rfl) rfl (vp_in_nI hn8 (by decide)) dX8_init_129 (fun H locs hw => ?_)
    rw [nI_clamp (by omega)] at hw
    replace hw := c_H_eq (xLw_set hlen) hw
    refine lv_iinc (v := nI (n + 1)) (lv' := [(1, .int (nI (n + 1))), (0, .ref h0)]) hx hb dX8_init_130 hl (k := 0) rfl (nI_1 n) (by decide) rfl (fun ls hl => ?_)
    refine lv_goto (tgt := 108) hx hb dX8_init_133 (by decide) ?_
    refine W.widen (k := 30 + 4 * (n + 1)) (n := 440 + 49 * (n + 1)) (by omega) (by omega) ?_
    exact ih (n + 1) _ _ _ _ _ (by omega) hw hl
def oX (D : va_G) (cI cJ cS : ClassId) (adK adV : Nat → Nat) (σB : q_M) (h0 : Nat) (ad : Nat → Nat) : va_W := q_ws (gX D cI cJ cS (fun k => if k = 0 then h0 else ad k) adK adV) (sX σB)
theorem rng63 {α : Type} (F : Nat → α) : (List.range 63).map F = [F 0, F 1, F 2, F 3, F 4, F 5, F 6, F 7, F 8, F 9, F 10, F 11, F 12, F 13, F 14, F 15, F 16, F 17, F 18, F 19, F 20, F 21, F 22, F 23, F 24, F 25, F 26, F 27, F 28, F 29, F 30] ++ (List.range 8).flatMap (fun i => [F (31 + 4 * i), F (32 + 4 * i), F (33 + 4 * i), F (34 + 4 * i)]) := rfl
set_option maxHeartbeats 8000000 in
set_option maxRecDepth 100000 in
theorem kX8_init {σB : q_M} (hB : fX0_become 0 3 q_0 = some σB) : c_M l D (tyX_ cI cJ cS) adK adV yX8_init wsX8_init { frames := 4, cells := 62, slots := 832, locals := 90 } c_N (.inr (7, [.null, .null, .null, .int 0, .null, .null, .null, .null, .null, .null, .int 0, .int 0])) (oX D cI cJ cS adK adV σB) 62 832 := by
  refine c_M_of (cc := cX8_init) (maxL := 2) (by decide) rfl rfl (by decide) ?_
  intro h0 p e s m below meth c ls C0 hr hlk hnm hl hX hw
  obtain ⟨hx, hb, hml, hown, hts⟩ := id C0
  refine lv_aload_n hx hb dX8_init_0 rfl (lv_at hl 0 rfl) ?_
  refine W.objInit hx hb hown (hts (.methodLink RX8 1 objectInit) (by decide +kernel)) (hts (.instanceMethod objectInit) (by decide +kernel)) (hts (.code objectInit ⟨#[0xb1]⟩ 1 none) (by decide +kernel)) rfl (by rw [hml]; exact hl.1) rfl dX8_init_1 (Nat.le_of_ble_eq_true rfl) (Nat.le_of_ble_eq_true rfl) ?_
  refine W.eq (g2 := F0 m 4 ls []) rfl ?_
  refine lv_aload_n hx hb dX8_init_4 rfl (lv_at hl 0 rfl) ?_
  refine c_newo (ci := 2) (fs := [.null, .long 0, .int 0, .int 0, .int 0, .int 0, .null, .null]) C0 hw rfl iX8_init_X2 tyX2 tyX2_ok (by decide +kernel) (by decide +kernel) (by decide +kernel) (fun j hj => by rcases (show j = 0 ∨ j = 1 ∨ j = 2 ∨ j = 3 ∨ j = 4 ∨ j = 5 ∨ j = 6 ∨ j = 7 by omega) with rfl | rfl | rfl | rfl | rfl | rfl | rfl | rfl <;> rfl) (Nat.le_of_ble_eq_true rfl) (Nat.le_of_ble_eq_true rfl) dX8_init_5 (fun q1 H hw => ?_)
  replace hw : c_H D (tyX_ cI cJ cS) adK adV (c_A h0 s.heap.size) s (([(h0, .inr (7, [.null, .null, .null, .int 0, .null, .null, .null, .null, .null, .null, .int 0, .int 0]))]) ++ [(q1, .inr (2, [.null, .long 0, .int 0, .int 0, .int 0, .int 0, .null, .null]))]) _ _ := hw
  refine lv_dup hx hb dX8_init_8 rfl ?_
  refine c_call hw (va_runI (As := []) (rest := [.ref q1, .ref h0]) C0 (kX2_init hB _ _) (cwI 0 hts gX8_init_X2_init rfl rfl rfl (hts (.initialized RX2) (by decide +kernel)) (hts (.methodLink RX8 9 yX2_init) (by decide +kernel)) (hts (.instanceMethod yX2_init) (by decide +kernel)) rfl ⟨by decide +kernel, by decide +kernel, by decide +kernel⟩ ⟨(Nat.le_of_ble_eq_true rfl), (Nat.le_of_ble_eq_true rfl)⟩) ⟨c_blind (fun _ _ _ _ h => trivial), c_pre hw (fun U hW => trivial)⟩ rfl rfl hl.1 rfl (lv_room (Nat.le_of_ble_eq_true rfl)) dX8_init_9 ⟨(Nat.le_of_ble_eq_true rfl), (Nat.le_of_ble_eq_true rfl)⟩) (fun adq1 H locs hw => ?_)
  replace hw : c_H D (tyX_ cI cJ cS) adK adV (c_A h0 s.heap.size) s ((h0, .inr (7, [.null, .null, .null, .int 0, .null, .null, .null, .null, .null, .null, .int 0, .int 0])) :: (mC cI cJ (mMo σB) (fun k => if k = 0 then q1 else adq1 k))) _ _ := hw
  refine c_putF (k := 0) (j := 0) (ty := (.object "MouldThatComesOff$Mould")) C0 hnm hw rfl rfl iX8_init_X8 tyX8 tyX8_ok nmX8 (by decide) (by decide +kernel) rfl rfl rfl (by decide +kernel) rfl rfl (Nat.le_of_ble_eq_true rfl) dX8_init_12 (fun H locs hw => ?_)
  replace hw : c_H D (tyX_ cI cJ cS) adK adV (c_A h0 s.heap.size) s ((h0, .inr (7, [.ref q1, .null, .null, .int 0, .null, .null, .null, .null, .null, .null, .int 0, .int 0])) :: (mC cI cJ (mMo σB) (fun k => if k = 0 then q1 else adq1 k))) _ _ := hw
  refine lv_aload_n hx hb dX8_init_15 rfl (lv_at hl 0 rfl) ?_
  refine c_newo (ci := 2) (fs := [.null, .long 0, .int 0, .int 0, .int 0, .int 0, .null, .null]) C0 hw rfl iX8_init_X2 tyX2 tyX2_ok (by decide +kernel) (by decide +kernel) (by decide +kernel) (fun j hj => by rcases (show j = 0 ∨ j = 1 ∨ j = 2 ∨ j = 3 ∨ j = 4 ∨ j = 5 ∨ j = 6 ∨ j = 7 by omega) with rfl | rfl | rfl | rfl | rfl | rfl | rfl | rfl <;> rfl) (Nat.le_of_ble_eq_true rfl) (Nat.le_of_ble_eq_true rfl) dX8_init_16 (fun q2 H hw => ?_)
  replace hw : c_H D (tyX_ cI cJ cS) adK adV (c_A h0 s.heap.size) s (((h0, .inr (7, [.ref q1, .null, .null, .int 0, .null, .null, .null, .null, .null, .null, .int 0, .int 0])) :: (mC cI cJ (mMo σB) (fun k => if k = 0 then q1 else adq1 k))) ++ [(q2, .inr (2, [.null, .long 0, .int 0, .int 0, .int 0, .int 0, .null, .null]))]) _ _ := hw
  refine lv_dup hx hb dX8_init_19 rfl ?_
  refine c_call hw (va_runI (As := []) (rest := [.ref q2, .ref h0]) C0 (kX2_init hB _ _) (cwI 0 hts gX8_init_X2_init rfl rfl rfl (hts (.initialized RX2) (by decide +kernel)) (hts (.methodLink RX8 9 yX2_init) (by decide +kernel)) (hts (.instanceMethod yX2_init) (by decide +kernel)) rfl ⟨by decide +kernel, by decide +kernel, by decide +kernel⟩ ⟨(Nat.le_of_ble_eq_true rfl), (Nat.le_of_ble_eq_true rfl)⟩) ⟨c_blind (fun _ _ _ _ h => trivial), c_pre hw (fun U hW => trivial)⟩ rfl rfl hl.1 rfl (lv_room (Nat.le_of_ble_eq_true rfl)) dX8_init_20 ⟨(Nat.le_of_ble_eq_true rfl), (Nat.le_of_ble_eq_true rfl)⟩) (fun adq2 H locs hw => ?_)
  replace hw : c_H D (tyX_ cI cJ cS) adK adV (c_A h0 s.heap.size) s ((h0, .inr (7, [.ref q1, .null, .null, .int 0, .null, .null, .null, .null, .null, .null, .int 0, .int 0])) :: (mC cI cJ (mMo σB) (fun k => if k = 0 then q1 else adq1 k) ++ mC cI cJ (mMo σB) (fun k => if k = 0 then q2 else adq2 k))) _ _ := hw
  refine c_putF (k := 0) (j := 1) (ty := (.object "MouldThatComesOff$Mould")) C0 hnm hw rfl rfl iX8_init_X8 tyX8 tyX8_ok nmX8 (by decide) (by decide +kernel) rfl rfl rfl (by decide +kernel) rfl rfl (Nat.le_of_ble_eq_true rfl) dX8_init_23 (fun H locs hw => ?_)
  replace hw : c_H D (tyX_ cI cJ cS) adK adV (c_A h0 s.heap.size) s ((h0, .inr (7, [.ref q1, .ref q2, .null, .int 0, .null, .null, .null, .null, .null, .null, .int 0, .int 0])) :: (mC cI cJ (mMo σB) (fun k => if k = 0 then q1 else adq1 k) ++ mC cI cJ (mMo σB) (fun k => if k = 0 then q2 else adq2 k))) _ _ := hw
  refine lv_aload_n hx hb dX8_init_26 rfl (lv_at hl 0 rfl) ?_
  refine c_newo (ci := 2) (fs := [.null, .long 0, .int 0, .int 0, .int 0, .int 0, .null, .null]) C0 hw rfl iX8_init_X2 tyX2 tyX2_ok (by decide +kernel) (by decide +kernel) (by decide +kernel) (fun j hj => by rcases (show j = 0 ∨ j = 1 ∨ j = 2 ∨ j = 3 ∨ j = 4 ∨ j = 5 ∨ j = 6 ∨ j = 7 by omega) with rfl | rfl | rfl | rfl | rfl | rfl | rfl | rfl <;> rfl) (Nat.le_of_ble_eq_true rfl) (Nat.le_of_ble_eq_true rfl) dX8_init_27 (fun q3 H hw => ?_)
  replace hw : c_H D (tyX_ cI cJ cS) adK adV (c_A h0 s.heap.size) s (((h0, .inr (7, [.ref q1, .ref q2, .null, .int 0, .null, .null, .null, .null, .null, .null, .int 0, .int 0])) :: (mC cI cJ (mMo σB) (fun k => if k = 0 then q1 else adq1 k) ++ mC cI cJ (mMo σB) (fun k => if k = 0 then q2 else adq2 k))) ++ [(q3, .inr (2, [.null, .long 0, .int 0, .int 0, .int 0, .int 0, .null, .null]))]) _ _ := hw
  refine lv_dup hx hb dX8_init_30 rfl ?_
  refine c_call hw (va_runI (As := []) (rest := [.ref q3, .ref h0]) C0 (kX2_init hB _ _) (cwI 0 hts gX8_init_X2_init rfl rfl rfl (hts (.initialized RX2) (by decide +kernel)) (hts (.methodLink RX8 9 yX2_init) (by decide +kernel)) (hts (.instanceMethod yX2_init) (by decide +kernel)) rfl ⟨by decide +kernel, by decide +kernel, by decide +kernel⟩ ⟨(Nat.le_of_ble_eq_true rfl), (Nat.le_of_ble_eq_true rfl)⟩) ⟨c_blind (fun _ _ _ _ h => trivial), c_pre hw (fun U hW => trivial)⟩ rfl rfl hl.1 rfl (lv_room (Nat.le_of_ble_eq_true rfl)) dX8_init_31 ⟨(Nat.le_of_ble_eq_true rfl), (Nat.le_of_ble_eq_true rfl)⟩) (fun adq3 H locs hw => ?_)
  replace hw : c_H D (tyX_ cI cJ cS) adK adV (c_A h0 s.heap.size) s ((h0, .inr (7, [.ref q1, .ref q2, .null, .int 0, .null, .null, .null, .null, .null, .null, .int 0, .int 0])) :: (mC cI cJ (mMo σB) (fun k => if k = 0 then q1 else adq1 k) ++ mC cI cJ (mMo σB) (fun k => if k = 0 then q2 else adq2 k) ++ mC cI cJ (mMo σB) (fun k => if k = 0 then q3 else adq3 k))) _ _ := hw
  refine c_putF (k := 0) (j := 2) (ty := (.object "MouldThatComesOff$Mould")) C0 hnm hw rfl rfl iX8_init_X8 tyX8 tyX8_ok nmX8 (by decide) (by decide +kernel) rfl rfl rfl (by decide +kernel) rfl rfl (Nat.le_of_ble_eq_true rfl) dX8_init_34 (fun H locs hw => ?_)
  replace hw : c_H D (tyX_ cI cJ cS) adK adV (c_A h0 s.heap.size) s ((h0, .inr (7, [.ref q1, .ref q2, .ref q3, .int 0, .null, .null, .null, .null, .null, .null, .int 0, .int 0])) :: (mC cI cJ (mMo σB) (fun k => if k = 0 then q1 else adq1 k) ++ mC cI cJ (mMo σB) (fun k => if k = 0 then q2 else adq2 k) ++ mC cI cJ (mMo σB) (fun k => if k = 0 then q3 else adq3 k))) _ _ := hw
  refine lv_aload_n hx hb dX8_init_37 rfl (lv_at hl 0 rfl) ?_
  refine lv_iconst (v := (0 : Int32)) hx hb dX8_init_38 (by decide) ?_
  refine c_put (k := 0) (j := 3) (ty := .boolean) C0 hw rfl rfl iX8_init_X8 tyX8 tyX8_ok nmX8 (by decide) (by decide +kernel) rfl rfl (by decide +kernel) rfl rfl (Nat.le_of_ble_eq_true rfl) dX8_init_39 (fun H locs hw => ?_)
  replace hw : c_H D (tyX_ cI cJ cS) adK adV (c_A h0 s.heap.size) s ((h0, .inr (7, [.ref q1, .ref q2, .ref q3, .int 0, .null, .null, .null, .null, .null, .null, .int 0, .int 0])) :: (mC cI cJ (mMo σB) (fun k => if k = 0 then q1 else adq1 k) ++ mC cI cJ (mMo σB) (fun k => if k = 0 then q2 else adq2 k) ++ mC cI cJ (mMo σB) (fun k => if k = 0 then q3 else adq3 k))) _ _ := hw
  refine lv_aload_n hx hb dX8_init_42 rfl (lv_at hl 0 rfl) ?_
  refine lv_bipush (v := (8 : Int32)) hx hb dX8_init_43 (by decide) ?_
  refine c_newq (t0 := 2) (N' := 8) C0 hw rfl (by decide +kernel) hX.2.2.2.2.2 (by decide) (by decide) (by decide) (Nat.le_of_ble_eq_true rfl) (Nat.le_of_ble_eq_true rfl) dX8_init_45 (fun qs H hw => ?_)
  replace hw : c_H D (tyX_ cI cJ cS) adK adV (c_A h0 s.heap.size) s ((h0, .inr (7, [.ref q1, .ref q2, .ref q3, .int 0, .null, .null, .null, .null, .null, .null, .int 0, .int 0])) :: (mC cI cJ (mMo σB) (fun k => if k = 0 then q1 else adq1 k) ++ mC cI cJ (mMo σB) (fun k => if k = 0 then q2 else adq2 k) ++ mC cI cJ (mMo σB) (fun k => if k = 0 then q3 else adq3 k) ++ [xAr cS qs (fun _ => none)])) _ _ := hw
  refine c_putF (k := 0) (j := 4) (ty := (.array (.object "MouldThatComesOff$Shelf"))) C0 hnm hw rfl rfl iX8_init_X8 tyX8 tyX8_ok nmX8 (by decide) (by decide +kernel) rfl rfl rfl (by decide +kernel) rfl rfl (Nat.le_of_ble_eq_true rfl) dX8_init_48 (fun H locs hw => ?_)
  replace hw : c_H D (tyX_ cI cJ cS) adK adV (c_A h0 s.heap.size) s ((h0, .inr (7, [.ref q1, .ref q2, .ref q3, .int 0, .ref qs, .null, .null, .null, .null, .null, .int 0, .int 0])) :: (mC cI cJ (mMo σB) (fun k => if k = 0 then q1 else adq1 k) ++ mC cI cJ (mMo σB) (fun k => if k = 0 then q2 else adq2 k) ++ mC cI cJ (mMo σB) (fun k => if k = 0 then q3 else adq3 k) ++ [xAr cS qs (fun _ => none)])) _ _ := hw
  refine lv_aload_n hx hb dX8_init_51 rfl (lv_at hl 0 rfl) ?_
  refine c_newo (ci := 6) (fs := [.int 0, .int 0, .int 0, .int 0, .null]) C0 hw rfl iX8_init_X7 tyX7 tyX7_ok (by decide +kernel) (by decide +kernel) (by decide +kernel) (fun j hj => by rcases (show j = 0 ∨ j = 1 ∨ j = 2 ∨ j = 3 ∨ j = 4 by omega) with rfl | rfl | rfl | rfl | rfl <;> rfl) (Nat.le_of_ble_eq_true rfl) (Nat.le_of_ble_eq_true rfl) dX8_init_52 (fun qt H hw => ?_)
  replace hw : c_H D (tyX_ cI cJ cS) adK adV (c_A h0 s.heap.size) s (((h0, .inr (7, [.ref q1, .ref q2, .ref q3, .int 0, .ref qs, .null, .null, .null, .null, .null, .int 0, .int 0])) :: (mC cI cJ (mMo σB) (fun k => if k = 0 then q1 else adq1 k) ++ mC cI cJ (mMo σB) (fun k => if k = 0 then q2 else adq2 k) ++ mC cI cJ (mMo σB) (fun k => if k = 0 then q3 else adq3 k) ++ [xAr cS qs (fun _ => none)])) ++ [(qt, .inr (6, [.int 0, .int 0, .int 0, .int 0, .null]))]) _ _ := hw
  refine lv_dup hx hb dX8_init_55 rfl ?_
  refine c_call hw (va_runIN (As := []) (rest := [.ref qt, .ref h0]) C0 (kX7_init _ _) ⟨va_cnB (host := RX8) 0 hts gX8_init_X7_init_n34 rfl rfl rfl hX.1 (hts (.initialized RX7) (by decide +kernel)) ⟨by decide +kernel, by decide +kernel, by decide +kernel⟩ ⟨(Nat.le_of_ble_eq_true rfl), (Nat.le_of_ble_eq_true rfl)⟩, rfl, hts (.instanceMethod yX7_init) (by decide +kernel)⟩ ⟨c_blind (fun _ _ _ _ h => trivial), c_pre hw (fun U hW => trivial)⟩ rfl rfl hl.1 rfl (lv_room (Nat.le_of_ble_eq_true rfl)) dX8_init_56 ⟨(Nat.le_of_ble_eq_true rfl), (Nat.le_of_ble_eq_true rfl)⟩) (fun adt H locs hw => ?_)
  replace hw : c_H D (tyX_ cI cJ cS) adK adV (c_A h0 s.heap.size) s ((h0, .inr (7, [.ref q1, .ref q2, .ref q3, .int 0, .ref qs, .null, .null, .null, .null, .null, .int 0, .int 0])) :: (mC cI cJ (mMo σB) (fun k => if k = 0 then q1 else adq1 k) ++ mC cI cJ (mMo σB) (fun k => if k = 0 then q2 else adq2 k) ++ mC cI cJ (mMo σB) (fun k => if k = 0 then q3 else adq3 k) ++ [xAr cS qs (fun _ => none)] ++ oT cI qt adt)) _ _ := hw
  refine c_putF (k := 0) (j := 5) (ty := (.object "MouldThatComesOff$Tape")) C0 hnm hw rfl rfl iX8_init_X8 tyX8 tyX8_ok nmX8 (by decide) (by decide +kernel) rfl rfl rfl (by decide +kernel) rfl rfl (Nat.le_of_ble_eq_true rfl) dX8_init_59 (fun H locs hw => ?_)
  replace hw : c_H D (tyX_ cI cJ cS) adK adV (c_A h0 s.heap.size) s ((h0, .inr (7, [.ref q1, .ref q2, .ref q3, .int 0, .ref qs, .ref qt, .null, .null, .null, .null, .int 0, .int 0])) :: (mC cI cJ (mMo σB) (fun k => if k = 0 then q1 else adq1 k) ++ mC cI cJ (mMo σB) (fun k => if k = 0 then q2 else adq2 k) ++ mC cI cJ (mMo σB) (fun k => if k = 0 then q3 else adq3 k) ++ [xAr cS qs (fun _ => none)] ++ oT cI qt adt)) _ _ := hw
  refine lv_aload_n hx hb dX8_init_62 rfl (lv_at hl 0 rfl) ?_
  refine c_newo (ci := 1) (fs := [.long 0, .null, .null]) C0 hw rfl iX8_init_X1 tyX1 tyX1_ok (by decide +kernel) (by decide +kernel) (by decide +kernel) (fun j hj => by rcases (show j = 0 ∨ j = 1 ∨ j = 2 by omega) with rfl | rfl | rfl <;> rfl) (Nat.le_of_ble_eq_true rfl) (Nat.le_of_ble_eq_true rfl) dX8_init_63 (fun ql H hw => ?_)
  replace hw : c_H D (tyX_ cI cJ cS) adK adV (c_A h0 s.heap.size) s (((h0, .inr (7, [.ref q1, .ref q2, .ref q3, .int 0, .ref qs, .ref qt, .null, .null, .null, .null, .int 0, .int 0])) :: (mC cI cJ (mMo σB) (fun k => if k = 0 then q1 else adq1 k) ++ mC cI cJ (mMo σB) (fun k => if k = 0 then q2 else adq2 k) ++ mC cI cJ (mMo σB) (fun k => if k = 0 then q3 else adq3 k) ++ [xAr cS qs (fun _ => none)] ++ oT cI qt adt)) ++ [(ql, .inr (1, [.long 0, .null, .null]))]) _ _ := hw
  refine lv_dup hx hb dX8_init_66 rfl ?_
  refine c_call hw (va_runIN (As := []) (rest := [.ref ql, .ref h0]) C0 (kX1_init _ _) ⟨va_cnB (host := RX8) 0 hts gX8_init_X1_init_n41 rfl rfl rfl hX.2.1 (hts (.initialized RX1) (by decide +kernel)) ⟨by decide +kernel, by decide +kernel, by decide +kernel⟩ ⟨(Nat.le_of_ble_eq_true rfl), (Nat.le_of_ble_eq_true rfl)⟩, rfl, hts (.instanceMethod yX1_init) (by decide +kernel)⟩ ⟨c_blind (fun _ _ _ _ h => trivial), c_pre hw (fun U hW => trivial)⟩ rfl rfl hl.1 rfl (lv_room (Nat.le_of_ble_eq_true rfl)) dX8_init_67 ⟨(Nat.le_of_ble_eq_true rfl), (Nat.le_of_ble_eq_true rfl)⟩) (fun adl H locs hw => ?_)
  replace hw : c_H D (tyX_ cI cJ cS) adK adV (c_A h0 s.heap.size) s ((h0, .inr (7, [.ref q1, .ref q2, .ref q3, .int 0, .ref qs, .ref qt, .null, .null, .null, .null, .int 0, .int 0])) :: (mC cI cJ (mMo σB) (fun k => if k = 0 then q1 else adq1 k) ++ mC cI cJ (mMo σB) (fun k => if k = 0 then q2 else adq2 k) ++ mC cI cJ (mMo σB) (fun k => if k = 0 then q3 else adq3 k) ++ [xAr cS qs (fun _ => none)] ++ oT cI qt adt ++ oL cJ ql adl)) _ _ := hw
  refine c_putF (k := 0) (j := 6) (ty := (.object "MouldThatComesOff$Leaving")) C0 hnm hw rfl rfl iX8_init_X8 tyX8 tyX8_ok nmX8 (by decide) (by decide +kernel) rfl rfl rfl (by decide +kernel) rfl rfl (Nat.le_of_ble_eq_true rfl) dX8_init_70 (fun H locs hw => ?_)
  replace hw : c_H D (tyX_ cI cJ cS) adK adV (c_A h0 s.heap.size) s ((h0, .inr (7, [.ref q1, .ref q2, .ref q3, .int 0, .ref qs, .ref qt, .ref ql, .null, .null, .null, .int 0, .int 0])) :: (mC cI cJ (mMo σB) (fun k => if k = 0 then q1 else adq1 k) ++ mC cI cJ (mMo σB) (fun k => if k = 0 then q2 else adq2 k) ++ mC cI cJ (mMo σB) (fun k => if k = 0 then q3 else adq3 k) ++ [xAr cS qs (fun _ => none)] ++ oT cI qt adt ++ oL cJ ql adl)) _ _ := hw
  refine lv_aload_n hx hb dX8_init_73 rfl (lv_at hl 0 rfl) ?_
  refine lv_iconst (v := (5 : Int32)) hx hb dX8_init_74 (by decide) ?_
  refine c_newi (t0 := 0) (N' := 5) C0 hw rfl (by decide +kernel) (by decide) (by decide) (by decide) (Nat.le_of_ble_eq_true rfl) (Nat.le_of_ble_eq_true rfl) dX8_init_75 (fun q28 H hw => ?_)
  replace hw : c_H D (tyX_ cI cJ cS) adK adV (c_A h0 s.heap.size) s ((h0, .inr (7, [.ref q1, .ref q2, .ref q3, .int 0, .ref qs, .ref qt, .ref ql, .null, .null, .null, .int 0, .int 0])) :: (mC cI cJ (mMo σB) (fun k => if k = 0 then q1 else adq1 k) ++ mC cI cJ (mMo σB) (fun k => if k = 0 then q2 else adq2 k) ++ mC cI cJ (mMo σB) (fun k => if k = 0 then q3 else adq3 k) ++ [xAr cS qs (fun _ => none)] ++ oT cI qt adt ++ oL cJ ql adl ++ [(q28, .inl (cI, 5, .inl (fun _ => 0)))])) _ _ := hw
  refine c_putF (k := 0) (j := 7) (ty := (.array .int)) C0 hnm hw rfl rfl iX8_init_X8 tyX8 tyX8_ok nmX8 (by decide) (by decide +kernel) rfl rfl rfl (by decide +kernel) rfl rfl (Nat.le_of_ble_eq_true rfl) dX8_init_77 (fun H locs hw => ?_)
  replace hw : c_H D (tyX_ cI cJ cS) adK adV (c_A h0 s.heap.size) s ((h0, .inr (7, [.ref q1, .ref q2, .ref q3, .int 0, .ref qs, .ref qt, .ref ql, .ref q28, .null, .null, .int 0, .int 0])) :: (mC cI cJ (mMo σB) (fun k => if k = 0 then q1 else adq1 k) ++ mC cI cJ (mMo σB) (fun k => if k = 0 then q2 else adq2 k) ++ mC cI cJ (mMo σB) (fun k => if k = 0 then q3 else adq3 k) ++ [xAr cS qs (fun _ => none)] ++ oT cI qt adt ++ oL cJ ql adl ++ [(q28, .inl (cI, 5, .inl (fun _ => 0)))])) _ _ := hw
  refine lv_aload_n hx hb dX8_init_80 rfl (lv_at hl 0 rfl) ?_
  refine lv_bipush (v := (8 : Int32)) hx hb dX8_init_81 (by decide) ?_
  refine c_newi (t0 := 0) (N' := 8) C0 hw rfl (by decide +kernel) (by decide) (by decide) (by decide) (Nat.le_of_ble_eq_true rfl) (Nat.le_of_ble_eq_true rfl) dX8_init_83 (fun q29 H hw => ?_)
  replace hw : c_H D (tyX_ cI cJ cS) adK adV (c_A h0 s.heap.size) s ((h0, .inr (7, [.ref q1, .ref q2, .ref q3, .int 0, .ref qs, .ref qt, .ref ql, .ref q28, .null, .null, .int 0, .int 0])) :: (mC cI cJ (mMo σB) (fun k => if k = 0 then q1 else adq1 k) ++ mC cI cJ (mMo σB) (fun k => if k = 0 then q2 else adq2 k) ++ mC cI cJ (mMo σB) (fun k => if k = 0 then q3 else adq3 k) ++ [xAr cS qs (fun _ => none)] ++ oT cI qt adt ++ oL cJ ql adl ++ [(q28, .inl (cI, 5, .inl (fun _ => 0)))] ++ [(q29, .inl (cI, 8, .inl (fun _ => 0)))])) _ _ := hw
  refine c_putF (k := 0) (j := 8) (ty := (.array .int)) C0 hnm hw rfl rfl iX8_init_X8 tyX8 tyX8_ok nmX8 (by decide) (by decide +kernel) rfl rfl rfl (by decide +kernel) rfl rfl (Nat.le_of_ble_eq_true rfl) dX8_init_85 (fun H locs hw => ?_)
  replace hw : c_H D (tyX_ cI cJ cS) adK adV (c_A h0 s.heap.size) s ((h0, .inr (7, [.ref q1, .ref q2, .ref q3, .int 0, .ref qs, .ref qt, .ref ql, .ref q28, .ref q29, .null, .int 0, .int 0])) :: (mC cI cJ (mMo σB) (fun k => if k = 0 then q1 else adq1 k) ++ mC cI cJ (mMo σB) (fun k => if k = 0 then q2 else adq2 k) ++ mC cI cJ (mMo σB) (fun k => if k = 0 then q3 else adq3 k) ++ [xAr cS qs (fun _ => none)] ++ oT cI qt adt ++ oL cJ ql adl ++ [(q28, .inl (cI, 5, .inl (fun _ => 0)))] ++ [(q29, .inl (cI, 8, .inl (fun _ => 0)))])) _ _ := hw
  refine lv_aload_n hx hb dX8_init_88 rfl (lv_at hl 0 rfl) ?_
  refine lv_bipush (v := (8 : Int32)) hx hb dX8_init_89 (by decide) ?_
  refine c_newi (t0 := 0) (N' := 8) C0 hw rfl (by decide +kernel) (by decide) (by decide) (by decide) (Nat.le_of_ble_eq_true rfl) (Nat.le_of_ble_eq_true rfl) dX8_init_91 (fun q30 H hw => ?_)
  replace hw : c_H D (tyX_ cI cJ cS) adK adV (c_A h0 s.heap.size) s ((h0, .inr (7, [.ref q1, .ref q2, .ref q3, .int 0, .ref qs, .ref qt, .ref ql, .ref q28, .ref q29, .null, .int 0, .int 0])) :: (mC cI cJ (mMo σB) (fun k => if k = 0 then q1 else adq1 k) ++ mC cI cJ (mMo σB) (fun k => if k = 0 then q2 else adq2 k) ++ mC cI cJ (mMo σB) (fun k => if k = 0 then q3 else adq3 k) ++ [xAr cS qs (fun _ => none)] ++ oT cI qt adt ++ oL cJ ql adl ++ [(q28, .inl (cI, 5, .inl (fun _ => 0)))] ++ [(q29, .inl (cI, 8, .inl (fun _ => 0)))] ++ [(q30, .inl (cI, 8, .inl (fun _ => 0)))])) _ _ := hw
  refine c_putF (k := 0) (j := 9) (ty := (.array .int)) C0 hnm hw rfl rfl iX8_init_X8 tyX8 tyX8_ok nmX8 (by decide) (by decide +kernel) rfl rfl rfl (by decide +kernel) rfl rfl (Nat.le_of_ble_eq_true rfl) dX8_init_93 (fun H locs hw => ?_)
  replace hw : c_H D (tyX_ cI cJ cS) adK adV (c_A h0 s.heap.size) s ((h0, .inr (7, [.ref q1, .ref q2, .ref q3, .int 0, .ref qs, .ref qt, .ref ql, .ref q28, .ref q29, .ref q30, .int 0, .int 0])) :: (mC cI cJ (mMo σB) (fun k => if k = 0 then q1 else adq1 k) ++ mC cI cJ (mMo σB) (fun k => if k = 0 then q2 else adq2 k) ++ mC cI cJ (mMo σB) (fun k => if k = 0 then q3 else adq3 k) ++ [xAr cS qs (fun _ => none)] ++ oT cI qt adt ++ oL cJ ql adl ++ [(q28, .inl (cI, 5, .inl (fun _ => 0)))] ++ [(q29, .inl (cI, 8, .inl (fun _ => 0)))] ++ [(q30, .inl (cI, 8, .inl (fun _ => 0)))])) _ _ := hw
  refine lv_aload_n hx hb dX8_init_96 rfl (lv_at hl 0 rfl) ?_
  refine lv_iconst (v := (0 : Int32)) hx hb dX8_init_97 (by decide) ?_
  refine c_put (k := 0) (j := 10) (ty := .int) C0 hw rfl rfl iX8_init_X8 tyX8 tyX8_ok nmX8 (by decide) (by decide +kernel) rfl rfl (by decide +kernel) rfl rfl (Nat.le_of_ble_eq_true rfl) dX8_init_98 (fun H locs hw => ?_)
  replace hw : c_H D (tyX_ cI cJ cS) adK adV (c_A h0 s.heap.size) s ((h0, .inr (7, [.ref q1, .ref q2, .ref q3, .int 0, .ref qs, .ref qt, .ref ql, .ref q28, .ref q29, .ref q30, .int 0, .int 0])) :: (mC cI cJ (mMo σB) (fun k => if k = 0 then q1 else adq1 k) ++ mC cI cJ (mMo σB) (fun k => if k = 0 then q2 else adq2 k) ++ mC cI cJ (mMo σB) (fun k => if k = 0 then q3 else adq3 k) ++ [xAr cS qs (fun _ => none)] ++ oT cI qt adt ++ oL cJ ql adl ++ [(q28, .inl (cI, 5, .inl (fun _ => 0)))] ++ [(q29, .inl (cI, 8, .inl (fun _ => 0)))] ++ [(q30, .inl (cI, 8, .inl (fun _ => 0)))])) _ _ := hw
  refine lv_aload_n hx hb dX8_init_101 rfl (lv_at hl 0 rfl) ?_
  refine lv_iconst (v := (0 : Int32)) hx hb dX8_init_102 (by decide) ?_
  refine c_put (k := 0) (j := 11) (ty := .int) C0 hw rfl rfl iX8_init_X8 tyX8 tyX8_ok nmX8 (by decide) (by decide +kernel) rfl rfl (by decide +kernel) rfl rfl (Nat.le_of_ble_eq_true rfl) dX8_init_103 (fun H locs hw => ?_)
  replace hw : c_H D (tyX_ cI cJ cS) adK adV (c_A h0 s.heap.size) s ((h0, .inr (7, [.ref q1, .ref q2, .ref q3, .int 0, .ref qs, .ref qt, .ref ql, .ref q28, .ref q29, .ref q30, .int 0, .int 0])) :: (mC cI cJ (mMo σB) (fun k => if k = 0 then q1 else adq1 k) ++ mC cI cJ (mMo σB) (fun k => if k = 0 then q2 else adq2 k) ++ mC cI cJ (mMo σB) (fun k => if k = 0 then q3 else adq3 k) ++ [xAr cS qs (fun _ => none)] ++ oT cI qt adt ++ oL cJ ql adl ++ [(q28, .inl (cI, 5, .inl (fun _ => 0)))] ++ [(q29, .inl (cI, 8, .inl (fun _ => 0)))] ++ [(q30, .inl (cI, 8, .inl (fun _ => 0)))])) _ _ := hw
  refine lv_iconst (v := (0 : Int32)) hx hb dX8_init_106 (by decide) ?_
  refine lv_istore_n (lv' := [(1, .int (nI 0)), (0, .ref h0)]) hx hb dX8_init_107 rfl hl (by decide) rfl (fun ls hl => ?_)
  obtain ⟨w, hwe⟩ : ∃ w : va_W, w = (h0, .inr (7, [.ref q1, .ref q2, .ref q3, .int 0, .ref qs, .ref qt, .ref ql, .ref q28, .ref q29, .ref q30, .int 0, .int 0])) :: (mC cI cJ (mMo σB) (fun k => if k = 0 then q1 else adq1 k) ++ mC cI cJ (mMo σB) (fun k => if k = 0 then q2 else adq2 k) ++ mC cI cJ (mMo σB) (fun k => if k = 0 then q3 else adq3 k) ++ [xAr cS qs (fun _ => none)] ++ oT cI qt adt ++ oL cJ ql adl ++ [(q28, .inl (cI, 5, .inl (fun _ => 0)))] ++ [(q29, .inl (cI, 8, .inl (fun _ => 0)))] ++ [(q30, .inl (cI, 8, .inl (fun _ => 0)))]) := ⟨_, rfl⟩
  have hlen : w.length = 31 := by subst hwe; rfl
  have hw0 : w[0]? = some (h0, .inr (7, [.ref q1, .ref q2, .ref q3, .int 0, .ref qs, .ref qt, .ref ql, .ref q28, .ref q29, .ref q30, .int 0, .int 0])) := by subst hwe; rfl
  have hw2 : c_H D (tyX_ cI cJ cS) adK adV (c_A h0 s.heap.size) s (xLw cJ cS w qs (fun _ => 0) (fun _ _ => 0) 0) H locs := by
    refine c_H_eq ?_ hw
    subst hwe
    rfl
  refine xLoop (Q0 := _) C0 hX hlen hw0 rfl (fun Q AS H locs ls hw => ?_) 8 0 _ _ _ _ ls (by omega) hw2 hl
  obtain ⟨ad, had⟩ : ∃ ad : Nat → Nat, ad = fun k => if k < 8 then (fun k => if k = 0 then q1 else adq1 k) (k - 1) else if k < 15 then (fun k => if k = 0 then q2 else adq2 k) (k - 8) else if k < 22 then (fun k => if k = 0 then q3 else adq3 k) (k - 15) else if k = 22 then qs else if k < 25 then (if k = 23 then qt else adt (k - 23)) else if k < 28 then (if k = 25 then ql else adl (k - 25)) else if k = 28 then q28 else if k = 29 then q29 else if k = 30 then q30 else if (k - 31) % 4 = 0 then Q ((k - 31) / 4) else AS ((k - 31) / 4) ((k - 31) % 4) := ⟨_, rfl⟩
  have hw3 := c_reA (k := 22) (f' := fun i => some ((fun k => if k = 0 then h0 else ad k) (31 + 4 * i))) hw (by have := xLw_22 (cJ := cJ) (cS := cS) (w := w) (qs := qs) (Q := Q) (AS := AS) (n := 8) (T := []) hlen; rw [List.append_nil] at this; exact this) (fun j hj => by subst had; rcases (show j = 0 ∨ j = 1 ∨ j = 2 ∨ j = 3 ∨ j = 4 ∨ j = 5 ∨ j = 6 ∨ j = 7 by omega) with rfl | rfl | rfl | rfl | rfl | rfl | rfl | rfl <;> rfl)
  have hfin : (xLw cJ cS w qs Q AS 8).set 22 (qs, .inl (cS, 8, .inr (.inr (.inr (.inr (fun i => some ((fun k => if k = 0 then h0 else ad k) (31 + 4 * i)))))))) = oX D cI cJ cS adK adV σB h0 ad := by
    unfold xLw oX q_ws
    rw [List.set_append_left _ _ (by simp [hlen]), List.set_set, rng63]
    congr 1
    · subst hwe had
      rfl
    · unfold xSl
      apply fm_congr
      intro i hi
      have hi8 := List.mem_range.mp hi
      subst had
      rcases (show i = 0 ∨ i = 1 ∨ i = 2 ∨ i = 3 ∨ i = 4 ∨ i = 5 ∨ i = 6 ∨ i = 7 by omega) with rfl | rfl | rfl | rfl | rfl | rfl | rfl | rfl <;> rfl
  exact c_vret (out := oX D cI cJ cS adK adV σB) ad C0 hr hlk (c_H_eq hfin hw3) dX8_init_136
end
