/-! The reference: each object is 29 cells from a base b on: itself, twenty arrays, the eight rows. kept and ahead are told by the base of the object that they name, as a number; 0: null. -/
def mRn (ad : Nat → Nat) (x : Int32) : Value := if x = 0 then .null else .ref (ad x.toNatClampNeg)
def mE (cI cJ cR : ClassId) (ad : Nat → Nat) (k : Nat) (f : Nat → Int32) (h : Nat → Int64) : va_E := match k % 29 with
  | 0 => .inr (8, [.ref (ad (k + 1)), .ref (ad (k + 2)), .ref (ad (k + 3)), .ref (ad (k + 4)), .ref (ad (k + 5)), .ref (ad (k + 6)), .ref (ad (k + 7)), .ref (ad (k + 8)), .ref (ad (k + 9)), .int (f 9), .ref (ad (k + 10)), .int (f 11), .long (h 12), .int (f 13), .ref (ad (k + 11)), .int (f 15), .ref (ad (k + 12)), .int (f 17), .int (f 18), mRn ad (f 19), .int (f 20), .int (f 21), .int (f 22), .long (h 23), .int (f 24), .ref (ad (k + 13)), .int (f 26), mRn ad (f 27), .int (f 28), .ref (ad (k + 14)), .ref (ad (k + 15)), .int (f 31), .ref (ad (k + 16)), .ref (ad (k + 17)), .ref (ad (k + 18)), .ref (ad (k + 19)), .ref (ad (k + 20))])
  | 1 => .inl (cI, 8, .inl f)
  | 2 => .inl (cI, 8, .inl f)
  | 3 => .inl (cI, 8, .inl f)
  | 4 => .inl (cR, 8, .inr (.inr (.inr (.inr (fun i => some (ad (k + 17 + i)))))))
  | 5 => .inl (cJ, 40, .inr (.inl h))
  | 6 => .inl (cI, 8, .inl f)
  | 7 => .inl (cI, 8, .inl f)
  | 8 => .inl (cI, 8, .inl f)
  | 9 => .inl (cI, 250, .inl f)
  | 10 => .inl (cI, 8, .inl f)
  | 11 => .inl (cJ, 8, .inr (.inl h))
  | 12 => .inl (cI, 64, .inl f)
  | 13 => .inl (cI, 2, .inl f)
  | 14 => .inl (cI, 8, .inl f)
  | 15 => .inl (cI, 8, .inl f)
  | 16 => .inl (cI, 64, .inl f)
  | 17 => .inl (cI, 64, .inl f)
  | 18 => .inl (cJ, 64, .inr (.inl h))
  | 19 => .inl (cI, 3, .inl f)
  | 20 => .inl (cI, 64, .inl f)
  | _ => .inl (cJ, 40, .inr (.inl h))
abbrev gM (D : va_G) (cI cJ cR : ClassId) (ad adK adV : Nat → Nat) (N : Nat) : q_G := (D, [(cI, .int), (cJ, .long), (cR, .array .long)], N, ad, mE cI cJ cR ad, (adK, adV))
section MW
variable {D : va_G} {cI cJ cR : ClassId} {ad adK adV : Nat → Nat} {N b : Nat}
theorem mN_0 (h : mB N b) : b < (gM D cI cJ cR ad adK adV N).2.2.1 := by show b < N; unfold mB at h; omega
theorem mE_0 (h0 : mB N b) : ∀ f h, (gM D cI cJ cR ad adK adV N).2.2.2.2.1 b f h = .inr (8, [.ref (ad (b + 1)), .ref (ad (b + 2)), .ref (ad (b + 3)), .ref (ad (b + 4)), .ref (ad (b + 5)), .ref (ad (b + 6)), .ref (ad (b + 7)), .ref (ad (b + 8)), .ref (ad (b + 9)), .int (f 9), .ref (ad (b + 10)), .int (f 11), .long (h 12), .int (f 13), .ref (ad (b + 11)), .int (f 15), .ref (ad (b + 12)), .int (f 17), .int (f 18), mRn ad (f 19), .int (f 20), .int (f 21), .int (f 22), .long (h 23), .int (f 24), .ref (ad (b + 13)), .int (f 26), mRn ad (f 27), .int (f 28), .ref (ad (b + 14)), .ref (ad (b + 15)), .int (f 31), .ref (ad (b + 16)), .ref (ad (b + 17)), .ref (ad (b + 18)), .ref (ad (b + 19)), .ref (ad (b + 20))]) := by
  intro f h
  show mE cI cJ cR ad b f h = _
  simp only [mE, h0.1]
theorem mN_1 (h : mB N b) : b + 1 < (gM D cI cJ cR ad adK adV N).2.2.1 := by show b + 1 < N; unfold mB at h; omega
theorem mE_1 (h0 : mB N b) : ∀ f h, (gM D cI cJ cR ad adK adV N).2.2.2.2.1 (b + 1) f h = .inl (cI, 8, .inl f) := by
  intro f h
  show mE cI cJ cR ad (b + 1) f h = _
  have e : (b + 1) % 29 = 1 := by have := h0.1; omega
  simp only [mE, e]
theorem mN_2 (h : mB N b) : b + 2 < (gM D cI cJ cR ad adK adV N).2.2.1 := by show b + 2 < N; unfold mB at h; omega
theorem mE_2 (h0 : mB N b) : ∀ f h, (gM D cI cJ cR ad adK adV N).2.2.2.2.1 (b + 2) f h = .inl (cI, 8, .inl f) := by
  intro f h
  show mE cI cJ cR ad (b + 2) f h = _
  have e : (b + 2) % 29 = 2 := by have := h0.1; omega
  simp only [mE, e]
theorem mN_3 (h : mB N b) : b + 3 < (gM D cI cJ cR ad adK adV N).2.2.1 := by show b + 3 < N; unfold mB at h; omega
theorem mE_3 (h0 : mB N b) : ∀ f h, (gM D cI cJ cR ad adK adV N).2.2.2.2.1 (b + 3) f h = .inl (cI, 8, .inl f) := by
  intro f h
  show mE cI cJ cR ad (b + 3) f h = _
  have e : (b + 3) % 29 = 3 := by have := h0.1; omega
  simp only [mE, e]
theorem mN_4 (h : mB N b) : b + 4 < (gM D cI cJ cR ad adK adV N).2.2.1 := by show b + 4 < N; unfold mB at h; omega
theorem mE_4 (h0 : mB N b) : ∀ f h, (gM D cI cJ cR ad adK adV N).2.2.2.2.1 (b + 4) f h = .inl (cR, 8, .inr (.inr (.inr (.inr (fun i => some (ad (b + 21 + i))))))) := by
  intro f h
  show mE cI cJ cR ad (b + 4) f h = _
  have e : (b + 4) % 29 = 4 := by have := h0.1; omega
  simp only [mE, e]
theorem mN_5 (h : mB N b) : b + 5 < (gM D cI cJ cR ad adK adV N).2.2.1 := by show b + 5 < N; unfold mB at h; omega
theorem mE_5 (h0 : mB N b) : ∀ f h, (gM D cI cJ cR ad adK adV N).2.2.2.2.1 (b + 5) f h = .inl (cJ, 40, .inr (.inl h)) := by
  intro f h
  show mE cI cJ cR ad (b + 5) f h = _
  have e : (b + 5) % 29 = 5 := by have := h0.1; omega
  simp only [mE, e]
theorem mN_6 (h : mB N b) : b + 6 < (gM D cI cJ cR ad adK adV N).2.2.1 := by show b + 6 < N; unfold mB at h; omega
theorem mE_6 (h0 : mB N b) : ∀ f h, (gM D cI cJ cR ad adK adV N).2.2.2.2.1 (b + 6) f h = .inl (cI, 8, .inl f) := by
  intro f h
  show mE cI cJ cR ad (b + 6) f h = _
  have e : (b + 6) % 29 = 6 := by have := h0.1; omega
  simp only [mE, e]
theorem mN_7 (h : mB N b) : b + 7 < (gM D cI cJ cR ad adK adV N).2.2.1 := by show b + 7 < N; unfold mB at h; omega
theorem mE_7 (h0 : mB N b) : ∀ f h, (gM D cI cJ cR ad adK adV N).2.2.2.2.1 (b + 7) f h = .inl (cI, 8, .inl f) := by
  intro f h
  show mE cI cJ cR ad (b + 7) f h = _
  have e : (b + 7) % 29 = 7 := by have := h0.1; omega
  simp only [mE, e]
theorem mN_8 (h : mB N b) : b + 8 < (gM D cI cJ cR ad adK adV N).2.2.1 := by show b + 8 < N; unfold mB at h; omega
theorem mE_8 (h0 : mB N b) : ∀ f h, (gM D cI cJ cR ad adK adV N).2.2.2.2.1 (b + 8) f h = .inl (cI, 8, .inl f) := by
  intro f h
  show mE cI cJ cR ad (b + 8) f h = _
  have e : (b + 8) % 29 = 8 := by have := h0.1; omega
  simp only [mE, e]
theorem mN_9 (h : mB N b) : b + 9 < (gM D cI cJ cR ad adK adV N).2.2.1 := by show b + 9 < N; unfold mB at h; omega
theorem mE_9 (h0 : mB N b) : ∀ f h, (gM D cI cJ cR ad adK adV N).2.2.2.2.1 (b + 9) f h = .inl (cI, 250, .inl f) := by
  intro f h
  show mE cI cJ cR ad (b + 9) f h = _
  have e : (b + 9) % 29 = 9 := by have := h0.1; omega
  simp only [mE, e]
theorem mN_10 (h : mB N b) : b + 10 < (gM D cI cJ cR ad adK adV N).2.2.1 := by show b + 10 < N; unfold mB at h; omega
theorem mE_10 (h0 : mB N b) : ∀ f h, (gM D cI cJ cR ad adK adV N).2.2.2.2.1 (b + 10) f h = .inl (cI, 8, .inl f) := by
  intro f h
  show mE cI cJ cR ad (b + 10) f h = _
  have e : (b + 10) % 29 = 10 := by have := h0.1; omega
  simp only [mE, e]
theorem mN_11 (h : mB N b) : b + 11 < (gM D cI cJ cR ad adK adV N).2.2.1 := by show b + 11 < N; unfold mB at h; omega
theorem mE_11 (h0 : mB N b) : ∀ f h, (gM D cI cJ cR ad adK adV N).2.2.2.2.1 (b + 11) f h = .inl (cJ, 8, .inr (.inl h)) := by
  intro f h
  show mE cI cJ cR ad (b + 11) f h = _
  have e : (b + 11) % 29 = 11 := by have := h0.1; omega
  simp only [mE, e]
theorem mN_12 (h : mB N b) : b + 12 < (gM D cI cJ cR ad adK adV N).2.2.1 := by show b + 12 < N; unfold mB at h; omega
theorem mE_12 (h0 : mB N b) : ∀ f h, (gM D cI cJ cR ad adK adV N).2.2.2.2.1 (b + 12) f h = .inl (cI, 64, .inl f) := by
  intro f h
  show mE cI cJ cR ad (b + 12) f h = _
  have e : (b + 12) % 29 = 12 := by have := h0.1; omega
  simp only [mE, e]
theorem mN_13 (h : mB N b) : b + 13 < (gM D cI cJ cR ad adK adV N).2.2.1 := by show b + 13 < N; unfold mB at h; omega
theorem mE_13 (h0 : mB N b) : ∀ f h, (gM D cI cJ cR ad adK adV N).2.2.2.2.1 (b + 13) f h = .inl (cI, 2, .inl f) := by
  intro f h
  show mE cI cJ cR ad (b + 13) f h = _
  have e : (b + 13) % 29 = 13 := by have := h0.1; omega
  simp only [mE, e]
theorem mN_14 (h : mB N b) : b + 14 < (gM D cI cJ cR ad adK adV N).2.2.1 := by show b + 14 < N; unfold mB at h; omega
theorem mE_14 (h0 : mB N b) : ∀ f h, (gM D cI cJ cR ad adK adV N).2.2.2.2.1 (b + 14) f h = .inl (cI, 8, .inl f) := by
  intro f h
  show mE cI cJ cR ad (b + 14) f h = _
  have e : (b + 14) % 29 = 14 := by have := h0.1; omega
  simp only [mE, e]
theorem mN_15 (h : mB N b) : b + 15 < (gM D cI cJ cR ad adK adV N).2.2.1 := by show b + 15 < N; unfold mB at h; omega
theorem mE_15 (h0 : mB N b) : ∀ f h, (gM D cI cJ cR ad adK adV N).2.2.2.2.1 (b + 15) f h = .inl (cI, 8, .inl f) := by
  intro f h
  show mE cI cJ cR ad (b + 15) f h = _
  have e : (b + 15) % 29 = 15 := by have := h0.1; omega
  simp only [mE, e]
theorem mN_16 (h : mB N b) : b + 16 < (gM D cI cJ cR ad adK adV N).2.2.1 := by show b + 16 < N; unfold mB at h; omega
theorem mE_16 (h0 : mB N b) : ∀ f h, (gM D cI cJ cR ad adK adV N).2.2.2.2.1 (b + 16) f h = .inl (cI, 64, .inl f) := by
  intro f h
  show mE cI cJ cR ad (b + 16) f h = _
  have e : (b + 16) % 29 = 16 := by have := h0.1; omega
  simp only [mE, e]
theorem mN_17 (h : mB N b) : b + 17 < (gM D cI cJ cR ad adK adV N).2.2.1 := by show b + 17 < N; unfold mB at h; omega
theorem mE_17 (h0 : mB N b) : ∀ f h, (gM D cI cJ cR ad adK adV N).2.2.2.2.1 (b + 17) f h = .inl (cI, 64, .inl f) := by
  intro f h
  show mE cI cJ cR ad (b + 17) f h = _
  have e : (b + 17) % 29 = 17 := by have := h0.1; omega
  simp only [mE, e]
theorem mN_18 (h : mB N b) : b + 18 < (gM D cI cJ cR ad adK adV N).2.2.1 := by show b + 18 < N; unfold mB at h; omega
theorem mE_18 (h0 : mB N b) : ∀ f h, (gM D cI cJ cR ad adK adV N).2.2.2.2.1 (b + 18) f h = .inl (cJ, 64, .inr (.inl h)) := by
  intro f h
  show mE cI cJ cR ad (b + 18) f h = _
  have e : (b + 18) % 29 = 18 := by have := h0.1; omega
  simp only [mE, e]
theorem mN_19 (h : mB N b) : b + 19 < (gM D cI cJ cR ad adK adV N).2.2.1 := by show b + 19 < N; unfold mB at h; omega
theorem mE_19 (h0 : mB N b) : ∀ f h, (gM D cI cJ cR ad adK adV N).2.2.2.2.1 (b + 19) f h = .inl (cI, 3, .inl f) := by
  intro f h
  show mE cI cJ cR ad (b + 19) f h = _
  have e : (b + 19) % 29 = 19 := by have := h0.1; omega
  simp only [mE, e]
theorem mN_20 (h : mB N b) : b + 20 < (gM D cI cJ cR ad adK adV N).2.2.1 := by show b + 20 < N; unfold mB at h; omega
theorem mE_20 (h0 : mB N b) : ∀ f h, (gM D cI cJ cR ad adK adV N).2.2.2.2.1 (b + 20) f h = .inl (cI, 64, .inl f) := by
  intro f h
  show mE cI cJ cR ad (b + 20) f h = _
  have e : (b + 20) % 29 = 20 := by have := h0.1; omega
  simp only [mE, e]
theorem mN_r {i : Int32} (h : mB N b ∧ ¬ (i < 0 ∨ 8 ≤ i.toNatClampNeg)) : b + 21 + i.toNatClampNeg < (gM D cI cJ cR ad adK adV N).2.2.1 := by
  show b + 21 + i.toNatClampNeg < N
  have h1 : i.toNatClampNeg < 8 := Nat.not_le.mp fun q => h.2 (Or.inr q)
  have := h.1.2
  omega
theorem mE_r {i : Int32} (h0 : mB N b ∧ ¬ (i < 0 ∨ 8 ≤ i.toNatClampNeg)) : ∀ f h, (gM D cI cJ cR ad adK adV N).2.2.2.2.1 (b + 21 + i.toNatClampNeg) f h = .inl (cJ, 40, .inr (.inl h)) := by
  intro f h
  show mE cI cJ cR ad (b + 21 + i.toNatClampNeg) f h = _
  have h1 : i.toNatClampNeg < 8 := Nat.not_le.mp fun q => h0.2 (Or.inr q)
  have e : (b + 21 + i.toNatClampNeg) % 29 = 21 + i.toNatClampNeg := by have := h0.1.1; omega
  generalize i.toNatClampNeg = j at h1 e
  unfold mE
  rw [e]
  match j, h1 with
  | 0, _ => rfl
  | 1, _ => rfl
  | 2, _ => rfl
  | 3, _ => rfl
  | 4, _ => rfl
  | 5, _ => rfl
  | 6, _ => rfl
  | 7, _ => rfl
end MW
section MR
variable {p : Program} {l : Launch} {e : Env} {R : Room} {s : State} {m : MethodId} {args : Array Value} {below : List Frame} {meth : Method} {c : Code} {H : Heap} {locs : List Loc} {cells slots : Nat} {Q : State → Prop}
variable {cc : ByteArray} {nL index pc : Nat} {Ts : List Cond} {own : String} {rest : List Value} {ls : Array Slot} {A : Nat → Prop} {σ : q_M} {D : va_G} {cI cJ cR : ClassId} {ad adK adV : Nat → Nat} {k N : Nat}
theorem gt_X9_0 (C0 : CallFix p m c cc nL s args Ts own) (hw : q_H (gM D cI cJ cR ad adK adV N) A s σ H locs) (hk : mB N k) (hin : ∀ w ∈ wsX90, w ∈ Ts) (hlink : Cond.fieldLink own index "MouldThatComesOffModel" "shelf" "[I" ∈ Ts) (hdg : decode cc pc = .ok (.getfield index, 3))
    (kk : W p l e R s m args below meth c H locs cells slots Q (F0 m (pc + 3) ls (.ref (ad (k + 1)) :: rest))) : W p l e R s m args below meth c H locs cells slots Q (F0 m pc ls (.ref (ad k) :: rest)) :=
  q_get C0 hw (mN_0 hk) (mE_0 hk _ _) (j := 0) rfl hin (by decide) hlink rfl rfl hdg kk
theorem gt_X9_1 (C0 : CallFix p m c cc nL s args Ts own) (hw : q_H (gM D cI cJ cR ad adK adV N) A s σ H locs) (hk : mB N k) (hin : ∀ w ∈ wsX90, w ∈ Ts) (hlink : Cond.fieldLink own index "MouldThatComesOffModel" "rowSort" "[I" ∈ Ts) (hdg : decode cc pc = .ok (.getfield index, 3))
    (kk : W p l e R s m args below meth c H locs cells slots Q (F0 m (pc + 3) ls (.ref (ad (k + 2)) :: rest))) : W p l e R s m args below meth c H locs cells slots Q (F0 m pc ls (.ref (ad k) :: rest)) :=
  q_get C0 hw (mN_0 hk) (mE_0 hk _ _) (j := 1) rfl hin (by decide) hlink rfl rfl hdg kk
theorem gt_X9_2 (C0 : CallFix p m c cc nL s args Ts own) (hw : q_H (gM D cI cJ cR ad adK adV N) A s σ H locs) (hk : mB N k) (hin : ∀ w ∈ wsX90, w ∈ Ts) (hlink : Cond.fieldLink own index "MouldThatComesOffModel" "rowSize" "[I" ∈ Ts) (hdg : decode cc pc = .ok (.getfield index, 3))
    (kk : W p l e R s m args below meth c H locs cells slots Q (F0 m (pc + 3) ls (.ref (ad (k + 3)) :: rest))) : W p l e R s m args below meth c H locs cells slots Q (F0 m pc ls (.ref (ad k) :: rest)) :=
  q_get C0 hw (mN_0 hk) (mE_0 hk _ _) (j := 2) rfl hin (by decide) hlink rfl rfl hdg kk
theorem gt_X9_3 (C0 : CallFix p m c cc nL s args Ts own) (hw : q_H (gM D cI cJ cR ad adK adV N) A s σ H locs) (hk : mB N k) (hin : ∀ w ∈ wsX90, w ∈ Ts) (hlink : Cond.fieldLink own index "MouldThatComesOffModel" "rows" "[[J" ∈ Ts) (hdg : decode cc pc = .ok (.getfield index, 3))
    (kk : W p l e R s m args below meth c H locs cells slots Q (F0 m (pc + 3) ls (.ref (ad (k + 4)) :: rest))) : W p l e R s m args below meth c H locs cells slots Q (F0 m pc ls (.ref (ad k) :: rest)) :=
  q_get C0 hw (mN_0 hk) (mE_0 hk _ _) (j := 3) rfl hin (by decide) hlink rfl rfl hdg kk
theorem gt_X9_4 (C0 : CallFix p m c cc nL s args Ts own) (hw : q_H (gM D cI cJ cR ad adK adV N) A s σ H locs) (hk : mB N k) (hin : ∀ w ∈ wsX90, w ∈ Ts) (hlink : Cond.fieldLink own index "MouldThatComesOffModel" "moved" "[J" ∈ Ts) (hdg : decode cc pc = .ok (.getfield index, 3))
    (kk : W p l e R s m args below meth c H locs cells slots Q (F0 m (pc + 3) ls (.ref (ad (k + 5)) :: rest))) : W p l e R s m args below meth c H locs cells slots Q (F0 m pc ls (.ref (ad k) :: rest)) :=
  q_get C0 hw (mN_0 hk) (mE_0 hk _ _) (j := 4) rfl hin (by decide) hlink rfl rfl hdg kk
theorem gt_X9_5 (C0 : CallFix p m c cc nL s args Ts own) (hw : q_H (gM D cI cJ cR ad adK adV N) A s σ H locs) (hk : mB N k) (hin : ∀ w ∈ wsX90, w ∈ Ts) (hlink : Cond.fieldLink own index "MouldThatComesOffModel" "moveKind" "[I" ∈ Ts) (hdg : decode cc pc = .ok (.getfield index, 3))
    (kk : W p l e R s m args below meth c H locs cells slots Q (F0 m (pc + 3) ls (.ref (ad (k + 6)) :: rest))) : W p l e R s m args below meth c H locs cells slots Q (F0 m pc ls (.ref (ad k) :: rest)) :=
  q_get C0 hw (mN_0 hk) (mE_0 hk _ _) (j := 5) rfl hin (by decide) hlink rfl rfl hdg kk
theorem gt_X9_6 (C0 : CallFix p m c cc nL s args Ts own) (hw : q_H (gM D cI cJ cR ad adK adV N) A s σ H locs) (hk : mB N k) (hin : ∀ w ∈ wsX90, w ∈ Ts) (hlink : Cond.fieldLink own index "MouldThatComesOffModel" "moveBy" "[I" ∈ Ts) (hdg : decode cc pc = .ok (.getfield index, 3))
    (kk : W p l e R s m args below meth c H locs cells slots Q (F0 m (pc + 3) ls (.ref (ad (k + 7)) :: rest))) : W p l e R s m args below meth c H locs cells slots Q (F0 m pc ls (.ref (ad k) :: rest)) :=
  q_get C0 hw (mN_0 hk) (mE_0 hk _ _) (j := 6) rfl hin (by decide) hlink rfl rfl hdg kk
theorem gt_X9_7 (C0 : CallFix p m c cc nL s args Ts own) (hw : q_H (gM D cI cJ cR ad adK adV N) A s σ H locs) (hk : mB N k) (hin : ∀ w ∈ wsX90, w ∈ Ts) (hlink : Cond.fieldLink own index "MouldThatComesOffModel" "moveThen" "[I" ∈ Ts) (hdg : decode cc pc = .ok (.getfield index, 3))
    (kk : W p l e R s m args below meth c H locs cells slots Q (F0 m (pc + 3) ls (.ref (ad (k + 8)) :: rest))) : W p l e R s m args below meth c H locs cells slots Q (F0 m pc ls (.ref (ad k) :: rest)) :=
  q_get C0 hw (mN_0 hk) (mE_0 hk _ _) (j := 7) rfl hin (by decide) hlink rfl rfl hdg kk
theorem gt_X9_8 (C0 : CallFix p m c cc nL s args Ts own) (hw : q_H (gM D cI cJ cR ad adK adV N) A s σ H locs) (hk : mB N k) (hin : ∀ w ∈ wsX90, w ∈ Ts) (hlink : Cond.fieldLink own index "MouldThatComesOffModel" "tape" "[I" ∈ Ts) (hdg : decode cc pc = .ok (.getfield index, 3))
    (kk : W p l e R s m args below meth c H locs cells slots Q (F0 m (pc + 3) ls (.ref (ad (k + 9)) :: rest))) : W p l e R s m args below meth c H locs cells slots Q (F0 m pc ls (.ref (ad k) :: rest)) :=
  q_get C0 hw (mN_0 hk) (mE_0 hk _ _) (j := 8) rfl hin (by decide) hlink rfl rfl hdg kk
theorem gt_X9_9 (C0 : CallFix p m c cc nL s args Ts own) (hw : q_H (gM D cI cJ cR ad adK adV N) A s σ H locs) (hk : mB N k) (hin : ∀ w ∈ wsX90, w ∈ Ts) (hlink : Cond.fieldLink own index "MouldThatComesOffModel" "tapeSize" "I" ∈ Ts) (hdg : decode cc pc = .ok (.getfield index, 3))
    (kk : W p l e R s m args below meth c H locs cells slots Q (F0 m (pc + 3) ls (.int (σ.1 k 9) :: rest))) : W p l e R s m args below meth c H locs cells slots Q (F0 m pc ls (.ref (ad k) :: rest)) :=
  q_get C0 hw (mN_0 hk) (mE_0 hk _ _) (j := 9) rfl hin (by decide) hlink rfl rfl hdg kk
theorem pt_X9_9 {x : Int32} (C0 : CallFix p m c cc nL s args Ts own) (hw : q_H (gM D cI cJ cR ad adK adV N) A s σ H locs) (hk : mB N k) (hin : ∀ w ∈ wsX90, w ∈ Ts) (hlink : Cond.fieldLink own index "MouldThatComesOffModel" "tapeSize" "I" ∈ Ts) (hdg : decode cc pc = .ok (.putfield index, 3))
    (kk : ∀ (σ1 : q_M) (H1 : Heap) (locs1 : List Loc), σ1 = q_I σ k 9 x → q_H (gM D cI cJ cR ad adK adV N) A s σ1 H1 locs1 → W p l e R s m args below meth c H1 locs1 cells slots Q (F0 m (pc + 3) ls rest)) : W p l e R s m args below meth c H locs cells slots Q (F0 m pc ls (.int x :: .ref (ad k) :: rest)) :=
  q_put (σ' := q_I σ k 9 x) (ty := .int) C0 hw (mN_0 hk) (mE_0 hk _ _) (by rw [mE_0 hk]; simp [q_I]) (fun a h => ⟨q_I_off h, rfl⟩) (j := 9) rfl hin tyX9 tyX9_ok nmX9 (by decide) hlink rfl rfl (by decide +kernel) rfl rfl (by simp) hdg (fun H1 locs1 hw => kk _ H1 locs1 rfl hw)
theorem gt_X9_10 (C0 : CallFix p m c cc nL s args Ts own) (hw : q_H (gM D cI cJ cR ad adK adV N) A s σ H locs) (hk : mB N k) (hin : ∀ w ∈ wsX90, w ∈ Ts) (hlink : Cond.fieldLink own index "MouldThatComesOffModel" "refused" "[I" ∈ Ts) (hdg : decode cc pc = .ok (.getfield index, 3))
    (kk : W p l e R s m args below meth c H locs cells slots Q (F0 m (pc + 3) ls (.ref (ad (k + 10)) :: rest))) : W p l e R s m args below meth c H locs cells slots Q (F0 m pc ls (.ref (ad k) :: rest)) :=
  q_get C0 hw (mN_0 hk) (mE_0 hk _ _) (j := 10) rfl hin (by decide) hlink rfl rfl hdg kk
theorem gt_X9_11 (C0 : CallFix p m c cc nL s args Ts own) (hw : q_H (gM D cI cJ cR ad adK adV N) A s σ H locs) (hk : mB N k) (hin : ∀ w ∈ wsX90, w ∈ Ts) (hlink : Cond.fieldLink own index "MouldThatComesOffModel" "n" "I" ∈ Ts) (hdg : decode cc pc = .ok (.getfield index, 3))
    (kk : W p l e R s m args below meth c H locs cells slots Q (F0 m (pc + 3) ls (.int (σ.1 k 11) :: rest))) : W p l e R s m args below meth c H locs cells slots Q (F0 m pc ls (.ref (ad k) :: rest)) :=
  q_get C0 hw (mN_0 hk) (mE_0 hk _ _) (j := 11) rfl hin (by decide) hlink rfl rfl hdg kk
theorem pt_X9_11 {x : Int32} (C0 : CallFix p m c cc nL s args Ts own) (hw : q_H (gM D cI cJ cR ad adK adV N) A s σ H locs) (hk : mB N k) (hin : ∀ w ∈ wsX90, w ∈ Ts) (hlink : Cond.fieldLink own index "MouldThatComesOffModel" "n" "I" ∈ Ts) (hdg : decode cc pc = .ok (.putfield index, 3))
    (kk : ∀ (σ1 : q_M) (H1 : Heap) (locs1 : List Loc), σ1 = q_I σ k 11 x → q_H (gM D cI cJ cR ad adK adV N) A s σ1 H1 locs1 → W p l e R s m args below meth c H1 locs1 cells slots Q (F0 m (pc + 3) ls rest)) : W p l e R s m args below meth c H locs cells slots Q (F0 m pc ls (.int x :: .ref (ad k) :: rest)) :=
  q_put (σ' := q_I σ k 11 x) (ty := .int) C0 hw (mN_0 hk) (mE_0 hk _ _) (by rw [mE_0 hk]; simp [q_I]) (fun a h => ⟨q_I_off h, rfl⟩) (j := 11) rfl hin tyX9 tyX9_ok nmX9 (by decide) hlink rfl rfl (by decide +kernel) rfl rfl (by simp) hdg (fun H1 locs1 hw => kk _ H1 locs1 rfl hw)
theorem gt_X9_12 (C0 : CallFix p m c cc nL s args Ts own) (hw : q_H (gM D cI cJ cR ad adK adV N) A s σ H locs) (hk : mB N k) (hin : ∀ w ∈ wsX90, w ∈ Ts) (hlink : Cond.fieldLink own index "MouldThatComesOffModel" "figure" "J" ∈ Ts) (hdg : decode cc pc = .ok (.getfield index, 3))
    (kk : W p l e R s m args below meth c H locs cells slots Q (F0 m (pc + 3) ls (.long (σ.2 k 12) :: rest))) : W p l e R s m args below meth c H locs cells slots Q (F0 m pc ls (.ref (ad k) :: rest)) :=
  q_get C0 hw (mN_0 hk) (mE_0 hk _ _) (j := 12) rfl hin (by decide) hlink rfl rfl hdg kk
theorem pt_X9_12 {x : Int64} (C0 : CallFix p m c cc nL s args Ts own) (hw : q_H (gM D cI cJ cR ad adK adV N) A s σ H locs) (hk : mB N k) (hin : ∀ w ∈ wsX90, w ∈ Ts) (hlink : Cond.fieldLink own index "MouldThatComesOffModel" "figure" "J" ∈ Ts) (hdg : decode cc pc = .ok (.putfield index, 3))
    (kk : ∀ (σ1 : q_M) (H1 : Heap) (locs1 : List Loc), σ1 = q_L σ k 12 x → q_H (gM D cI cJ cR ad adK adV N) A s σ1 H1 locs1 → W p l e R s m args below meth c H1 locs1 cells slots Q (F0 m (pc + 3) ls rest)) : W p l e R s m args below meth c H locs cells slots Q (F0 m pc ls (.long x :: .ref (ad k) :: rest)) :=
  q_put (σ' := q_L σ k 12 x) (ty := .long) C0 hw (mN_0 hk) (mE_0 hk _ _) (by rw [mE_0 hk]; simp [q_L]) (fun a h => ⟨rfl, q_L_off h⟩) (j := 12) rfl hin tyX9 tyX9_ok nmX9 (by decide) hlink rfl rfl (by decide +kernel) rfl rfl (by simp) hdg (fun H1 locs1 hw => kk _ H1 locs1 rfl hw)
theorem gt_X9_13 (C0 : CallFix p m c cc nL s args Ts own) (hw : q_H (gM D cI cJ cR ad adK adV N) A s σ H locs) (hk : mB N k) (hin : ∀ w ∈ wsX90, w ∈ Ts) (hlink : Cond.fieldLink own index "MouldThatComesOffModel" "pieces" "I" ∈ Ts) (hdg : decode cc pc = .ok (.getfield index, 3))
    (kk : W p l e R s m args below meth c H locs cells slots Q (F0 m (pc + 3) ls (.int (σ.1 k 13) :: rest))) : W p l e R s m args below meth c H locs cells slots Q (F0 m pc ls (.ref (ad k) :: rest)) :=
  q_get C0 hw (mN_0 hk) (mE_0 hk _ _) (j := 13) rfl hin (by decide) hlink rfl rfl hdg kk
theorem pt_X9_13 {x : Int32} (C0 : CallFix p m c cc nL s args Ts own) (hw : q_H (gM D cI cJ cR ad adK adV N) A s σ H locs) (hk : mB N k) (hin : ∀ w ∈ wsX90, w ∈ Ts) (hlink : Cond.fieldLink own index "MouldThatComesOffModel" "pieces" "I" ∈ Ts) (hdg : decode cc pc = .ok (.putfield index, 3))
    (kk : ∀ (σ1 : q_M) (H1 : Heap) (locs1 : List Loc), σ1 = q_I σ k 13 x → q_H (gM D cI cJ cR ad adK adV N) A s σ1 H1 locs1 → W p l e R s m args below meth c H1 locs1 cells slots Q (F0 m (pc + 3) ls rest)) : W p l e R s m args below meth c H locs cells slots Q (F0 m pc ls (.int x :: .ref (ad k) :: rest)) :=
  q_put (σ' := q_I σ k 13 x) (ty := .int) C0 hw (mN_0 hk) (mE_0 hk _ _) (by rw [mE_0 hk]; simp [q_I]) (fun a h => ⟨q_I_off h, rfl⟩) (j := 13) rfl hin tyX9 tyX9_ok nmX9 (by decide) hlink rfl rfl (by decide +kernel) rfl rfl (by simp) hdg (fun H1 locs1 hw => kk _ H1 locs1 rfl hw)
theorem gt_X9_14 (C0 : CallFix p m c cc nL s args Ts own) (hw : q_H (gM D cI cJ cR ad adK adV N) A s σ H locs) (hk : mB N k) (hin : ∀ w ∈ wsX90, w ∈ Ts) (hlink : Cond.fieldLink own index "MouldThatComesOffModel" "piece" "[J" ∈ Ts) (hdg : decode cc pc = .ok (.getfield index, 3))
    (kk : W p l e R s m args below meth c H locs cells slots Q (F0 m (pc + 3) ls (.ref (ad (k + 11)) :: rest))) : W p l e R s m args below meth c H locs cells slots Q (F0 m pc ls (.ref (ad k) :: rest)) :=
  q_get C0 hw (mN_0 hk) (mE_0 hk _ _) (j := 14) rfl hin (by decide) hlink rfl rfl hdg kk
theorem gt_X9_15 (C0 : CallFix p m c cc nL s args Ts own) (hw : q_H (gM D cI cJ cR ad adK adV N) A s σ H locs) (hk : mB N k) (hin : ∀ w ∈ wsX90, w ∈ Ts) (hlink : Cond.fieldLink own index "MouldThatComesOffModel" "off" "I" ∈ Ts) (hdg : decode cc pc = .ok (.getfield index, 3))
    (kk : W p l e R s m args below meth c H locs cells slots Q (F0 m (pc + 3) ls (.int (σ.1 k 15) :: rest))) : W p l e R s m args below meth c H locs cells slots Q (F0 m pc ls (.ref (ad k) :: rest)) :=
  q_get C0 hw (mN_0 hk) (mE_0 hk _ _) (j := 15) rfl hin (by decide) hlink rfl rfl hdg kk
theorem pt_X9_15 {x : Int32} (C0 : CallFix p m c cc nL s args Ts own) (hw : q_H (gM D cI cJ cR ad adK adV N) A s σ H locs) (hk : mB N k) (hin : ∀ w ∈ wsX90, w ∈ Ts) (hlink : Cond.fieldLink own index "MouldThatComesOffModel" "off" "I" ∈ Ts) (hdg : decode cc pc = .ok (.putfield index, 3))
    (kk : ∀ (σ1 : q_M) (H1 : Heap) (locs1 : List Loc), σ1 = q_I σ k 15 x → q_H (gM D cI cJ cR ad adK adV N) A s σ1 H1 locs1 → W p l e R s m args below meth c H1 locs1 cells slots Q (F0 m (pc + 3) ls rest)) : W p l e R s m args below meth c H locs cells slots Q (F0 m pc ls (.int x :: .ref (ad k) :: rest)) :=
  q_put (σ' := q_I σ k 15 x) (ty := .int) C0 hw (mN_0 hk) (mE_0 hk _ _) (by rw [mE_0 hk]; simp [q_I]) (fun a h => ⟨q_I_off h, rfl⟩) (j := 15) rfl hin tyX9 tyX9_ok nmX9 (by decide) hlink rfl rfl (by decide +kernel) rfl rfl (by simp) hdg (fun H1 locs1 hw => kk _ H1 locs1 rfl hw)
theorem gt_X9_16 (C0 : CallFix p m c cc nL s args Ts own) (hw : q_H (gM D cI cJ cR ad adK adV N) A s σ H locs) (hk : mB N k) (hin : ∀ w ∈ wsX90, w ∈ Ts) (hlink : Cond.fieldLink own index "MouldThatComesOffModel" "shows" "[I" ∈ Ts) (hdg : decode cc pc = .ok (.getfield index, 3))
    (kk : W p l e R s m args below meth c H locs cells slots Q (F0 m (pc + 3) ls (.ref (ad (k + 12)) :: rest))) : W p l e R s m args below meth c H locs cells slots Q (F0 m pc ls (.ref (ad k) :: rest)) :=
  q_get C0 hw (mN_0 hk) (mE_0 hk _ _) (j := 16) rfl hin (by decide) hlink rfl rfl hdg kk
theorem gt_X9_17 (C0 : CallFix p m c cc nL s args Ts own) (hw : q_H (gM D cI cJ cR ad adK adV N) A s σ H locs) (hk : mB N k) (hin : ∀ w ∈ wsX90, w ∈ Ts) (hlink : Cond.fieldLink own index "MouldThatComesOffModel" "heavy" "I" ∈ Ts) (hdg : decode cc pc = .ok (.getfield index, 3))
    (kk : W p l e R s m args below meth c H locs cells slots Q (F0 m (pc + 3) ls (.int (σ.1 k 17) :: rest))) : W p l e R s m args below meth c H locs cells slots Q (F0 m pc ls (.ref (ad k) :: rest)) :=
  q_get C0 hw (mN_0 hk) (mE_0 hk _ _) (j := 17) rfl hin (by decide) hlink rfl rfl hdg kk
theorem pt_X9_17 {x : Int32} (C0 : CallFix p m c cc nL s args Ts own) (hw : q_H (gM D cI cJ cR ad adK adV N) A s σ H locs) (hk : mB N k) (hin : ∀ w ∈ wsX90, w ∈ Ts) (hlink : Cond.fieldLink own index "MouldThatComesOffModel" "heavy" "I" ∈ Ts) (hdg : decode cc pc = .ok (.putfield index, 3))
    (kk : ∀ (σ1 : q_M) (H1 : Heap) (locs1 : List Loc), σ1 = q_I σ k 17 x → q_H (gM D cI cJ cR ad adK adV N) A s σ1 H1 locs1 → W p l e R s m args below meth c H1 locs1 cells slots Q (F0 m (pc + 3) ls rest)) : W p l e R s m args below meth c H locs cells slots Q (F0 m pc ls (.int x :: .ref (ad k) :: rest)) :=
  q_put (σ' := q_I σ k 17 x) (ty := .int) C0 hw (mN_0 hk) (mE_0 hk _ _) (by rw [mE_0 hk]; simp [q_I]) (fun a h => ⟨q_I_off h, rfl⟩) (j := 17) rfl hin tyX9 tyX9_ok nmX9 (by decide) hlink rfl rfl (by decide +kernel) rfl rfl (by simp) hdg (fun H1 locs1 hw => kk _ H1 locs1 rfl hw)
theorem gt_X9_18 (C0 : CallFix p m c cc nL s args Ts own) (hw : q_H (gM D cI cJ cR ad adK adV N) A s σ H locs) (hk : mB N k) (hin : ∀ w ∈ wsX90, w ∈ Ts) (hlink : Cond.fieldLink own index "MouldThatComesOffModel" "wear" "I" ∈ Ts) (hdg : decode cc pc = .ok (.getfield index, 3))
    (kk : W p l e R s m args below meth c H locs cells slots Q (F0 m (pc + 3) ls (.int (σ.1 k 18) :: rest))) : W p l e R s m args below meth c H locs cells slots Q (F0 m pc ls (.ref (ad k) :: rest)) :=
  q_get C0 hw (mN_0 hk) (mE_0 hk _ _) (j := 18) rfl hin (by decide) hlink rfl rfl hdg kk
theorem pt_X9_18 {x : Int32} (C0 : CallFix p m c cc nL s args Ts own) (hw : q_H (gM D cI cJ cR ad adK adV N) A s σ H locs) (hk : mB N k) (hin : ∀ w ∈ wsX90, w ∈ Ts) (hlink : Cond.fieldLink own index "MouldThatComesOffModel" "wear" "I" ∈ Ts) (hdg : decode cc pc = .ok (.putfield index, 3))
    (kk : ∀ (σ1 : q_M) (H1 : Heap) (locs1 : List Loc), σ1 = q_I σ k 18 x → q_H (gM D cI cJ cR ad adK adV N) A s σ1 H1 locs1 → W p l e R s m args below meth c H1 locs1 cells slots Q (F0 m (pc + 3) ls rest)) : W p l e R s m args below meth c H locs cells slots Q (F0 m pc ls (.int x :: .ref (ad k) :: rest)) :=
  q_put (σ' := q_I σ k 18 x) (ty := .int) C0 hw (mN_0 hk) (mE_0 hk _ _) (by rw [mE_0 hk]; simp [q_I]) (fun a h => ⟨q_I_off h, rfl⟩) (j := 18) rfl hin tyX9 tyX9_ok nmX9 (by decide) hlink rfl rfl (by decide +kernel) rfl rfl (by simp) hdg (fun H1 locs1 hw => kk _ H1 locs1 rfl hw)
theorem gt_X9_19 (C0 : CallFix p m c cc nL s args Ts own) (hw : q_H (gM D cI cJ cR ad adK adV N) A s σ H locs) (hk : mB N k) (hin : ∀ w ∈ wsX90, w ∈ Ts) (hlink : Cond.fieldLink own index "MouldThatComesOffModel" "kept" "LMouldThatComesOffModel;" ∈ Ts) (hdg : decode cc pc = .ok (.getfield index, 3))
    (kk : W p l e R s m args below meth c H locs cells slots Q (F0 m (pc + 3) ls (mRn ad (σ.1 k 19) :: rest))) : W p l e R s m args below meth c H locs cells slots Q (F0 m pc ls (.ref (ad k) :: rest)) :=
  q_get C0 hw (mN_0 hk) (mE_0 hk _ _) (j := 19) rfl hin (by decide) hlink rfl rfl hdg kk
theorem gt_X9_20 (C0 : CallFix p m c cc nL s args Ts own) (hw : q_H (gM D cI cJ cR ad adK adV N) A s σ H locs) (hk : mB N k) (hin : ∀ w ∈ wsX90, w ∈ Ts) (hlink : Cond.fieldLink own index "MouldThatComesOffModel" "at" "I" ∈ Ts) (hdg : decode cc pc = .ok (.getfield index, 3))
    (kk : W p l e R s m args below meth c H locs cells slots Q (F0 m (pc + 3) ls (.int (σ.1 k 20) :: rest))) : W p l e R s m args below meth c H locs cells slots Q (F0 m pc ls (.ref (ad k) :: rest)) :=
  q_get C0 hw (mN_0 hk) (mE_0 hk _ _) (j := 20) rfl hin (by decide) hlink rfl rfl hdg kk
theorem pt_X9_20 {x : Int32} (C0 : CallFix p m c cc nL s args Ts own) (hw : q_H (gM D cI cJ cR ad adK adV N) A s σ H locs) (hk : mB N k) (hin : ∀ w ∈ wsX90, w ∈ Ts) (hlink : Cond.fieldLink own index "MouldThatComesOffModel" "at" "I" ∈ Ts) (hdg : decode cc pc = .ok (.putfield index, 3))
    (kk : ∀ (σ1 : q_M) (H1 : Heap) (locs1 : List Loc), σ1 = q_I σ k 20 x → q_H (gM D cI cJ cR ad adK adV N) A s σ1 H1 locs1 → W p l e R s m args below meth c H1 locs1 cells slots Q (F0 m (pc + 3) ls rest)) : W p l e R s m args below meth c H locs cells slots Q (F0 m pc ls (.int x :: .ref (ad k) :: rest)) :=
  q_put (σ' := q_I σ k 20 x) (ty := .int) C0 hw (mN_0 hk) (mE_0 hk _ _) (by rw [mE_0 hk]; simp [q_I]) (fun a h => ⟨q_I_off h, rfl⟩) (j := 20) rfl hin tyX9 tyX9_ok nmX9 (by decide) hlink rfl rfl (by decide +kernel) rfl rfl (by simp) hdg (fun H1 locs1 hw => kk _ H1 locs1 rfl hw)
theorem gt_X9_21 (C0 : CallFix p m c cc nL s args Ts own) (hw : q_H (gM D cI cJ cR ad adK adV N) A s σ H locs) (hk : mB N k) (hin : ∀ w ∈ wsX90, w ∈ Ts) (hlink : Cond.fieldLink own index "MouldThatComesOffModel" "token" "I" ∈ Ts) (hdg : decode cc pc = .ok (.getfield index, 3))
    (kk : W p l e R s m args below meth c H locs cells slots Q (F0 m (pc + 3) ls (.int (σ.1 k 21) :: rest))) : W p l e R s m args below meth c H locs cells slots Q (F0 m pc ls (.ref (ad k) :: rest)) :=
  q_get C0 hw (mN_0 hk) (mE_0 hk _ _) (j := 21) rfl hin (by decide) hlink rfl rfl hdg kk
theorem pt_X9_21 {x : Int32} (C0 : CallFix p m c cc nL s args Ts own) (hw : q_H (gM D cI cJ cR ad adK adV N) A s σ H locs) (hk : mB N k) (hin : ∀ w ∈ wsX90, w ∈ Ts) (hlink : Cond.fieldLink own index "MouldThatComesOffModel" "token" "I" ∈ Ts) (hdg : decode cc pc = .ok (.putfield index, 3))
    (kk : ∀ (σ1 : q_M) (H1 : Heap) (locs1 : List Loc), σ1 = q_I σ k 21 x → q_H (gM D cI cJ cR ad adK adV N) A s σ1 H1 locs1 → W p l e R s m args below meth c H1 locs1 cells slots Q (F0 m (pc + 3) ls rest)) : W p l e R s m args below meth c H locs cells slots Q (F0 m pc ls (.int x :: .ref (ad k) :: rest)) :=
  q_put (σ' := q_I σ k 21 x) (ty := .int) C0 hw (mN_0 hk) (mE_0 hk _ _) (by rw [mE_0 hk]; simp [q_I]) (fun a h => ⟨q_I_off h, rfl⟩) (j := 21) rfl hin tyX9 tyX9_ok nmX9 (by decide) hlink rfl rfl (by decide +kernel) rfl rfl (by simp) hdg (fun H1 locs1 hw => kk _ H1 locs1 rfl hw)
theorem gt_X9_22 (C0 : CallFix p m c cc nL s args Ts own) (hw : q_H (gM D cI cJ cR ad adK adV N) A s σ H locs) (hk : mB N k) (hin : ∀ w ∈ wsX90, w ∈ Ts) (hlink : Cond.fieldLink own index "MouldThatComesOffModel" "start" "I" ∈ Ts) (hdg : decode cc pc = .ok (.getfield index, 3))
    (kk : W p l e R s m args below meth c H locs cells slots Q (F0 m (pc + 3) ls (.int (σ.1 k 22) :: rest))) : W p l e R s m args below meth c H locs cells slots Q (F0 m pc ls (.ref (ad k) :: rest)) :=
  q_get C0 hw (mN_0 hk) (mE_0 hk _ _) (j := 22) rfl hin (by decide) hlink rfl rfl hdg kk
theorem pt_X9_22 {x : Int32} (C0 : CallFix p m c cc nL s args Ts own) (hw : q_H (gM D cI cJ cR ad adK adV N) A s σ H locs) (hk : mB N k) (hin : ∀ w ∈ wsX90, w ∈ Ts) (hlink : Cond.fieldLink own index "MouldThatComesOffModel" "start" "I" ∈ Ts) (hdg : decode cc pc = .ok (.putfield index, 3))
    (kk : ∀ (σ1 : q_M) (H1 : Heap) (locs1 : List Loc), σ1 = q_I σ k 22 x → q_H (gM D cI cJ cR ad adK adV N) A s σ1 H1 locs1 → W p l e R s m args below meth c H1 locs1 cells slots Q (F0 m (pc + 3) ls rest)) : W p l e R s m args below meth c H locs cells slots Q (F0 m pc ls (.int x :: .ref (ad k) :: rest)) :=
  q_put (σ' := q_I σ k 22 x) (ty := .int) C0 hw (mN_0 hk) (mE_0 hk _ _) (by rw [mE_0 hk]; simp [q_I]) (fun a h => ⟨q_I_off h, rfl⟩) (j := 22) rfl hin tyX9 tyX9_ok nmX9 (by decide) hlink rfl rfl (by decide +kernel) rfl rfl (by simp) hdg (fun H1 locs1 hw => kk _ H1 locs1 rfl hw)
theorem gt_X9_23 (C0 : CallFix p m c cc nL s args Ts own) (hw : q_H (gM D cI cJ cR ad adK adV N) A s σ H locs) (hk : mB N k) (hin : ∀ w ∈ wsX90, w ∈ Ts) (hlink : Cond.fieldLink own index "MouldThatComesOffModel" "figures" "J" ∈ Ts) (hdg : decode cc pc = .ok (.getfield index, 3))
    (kk : W p l e R s m args below meth c H locs cells slots Q (F0 m (pc + 3) ls (.long (σ.2 k 23) :: rest))) : W p l e R s m args below meth c H locs cells slots Q (F0 m pc ls (.ref (ad k) :: rest)) :=
  q_get C0 hw (mN_0 hk) (mE_0 hk _ _) (j := 23) rfl hin (by decide) hlink rfl rfl hdg kk
theorem pt_X9_23 {x : Int64} (C0 : CallFix p m c cc nL s args Ts own) (hw : q_H (gM D cI cJ cR ad adK adV N) A s σ H locs) (hk : mB N k) (hin : ∀ w ∈ wsX90, w ∈ Ts) (hlink : Cond.fieldLink own index "MouldThatComesOffModel" "figures" "J" ∈ Ts) (hdg : decode cc pc = .ok (.putfield index, 3))
    (kk : ∀ (σ1 : q_M) (H1 : Heap) (locs1 : List Loc), σ1 = q_L σ k 23 x → q_H (gM D cI cJ cR ad adK adV N) A s σ1 H1 locs1 → W p l e R s m args below meth c H1 locs1 cells slots Q (F0 m (pc + 3) ls rest)) : W p l e R s m args below meth c H locs cells slots Q (F0 m pc ls (.long x :: .ref (ad k) :: rest)) :=
  q_put (σ' := q_L σ k 23 x) (ty := .long) C0 hw (mN_0 hk) (mE_0 hk _ _) (by rw [mE_0 hk]; simp [q_L]) (fun a h => ⟨rfl, q_L_off h⟩) (j := 23) rfl hin tyX9 tyX9_ok nmX9 (by decide) hlink rfl rfl (by decide +kernel) rfl rfl (by simp) hdg (fun H1 locs1 hw => kk _ H1 locs1 rfl hw)
theorem gt_X9_24 (C0 : CallFix p m c cc nL s args Ts own) (hw : q_H (gM D cI cJ cR ad adK adV N) A s σ H locs) (hk : mB N k) (hin : ∀ w ∈ wsX90, w ∈ Ts) (hlink : Cond.fieldLink own index "MouldThatComesOffModel" "fault" "I" ∈ Ts) (hdg : decode cc pc = .ok (.getfield index, 3))
    (kk : W p l e R s m args below meth c H locs cells slots Q (F0 m (pc + 3) ls (.int (σ.1 k 24) :: rest))) : W p l e R s m args below meth c H locs cells slots Q (F0 m pc ls (.ref (ad k) :: rest)) :=
  q_get C0 hw (mN_0 hk) (mE_0 hk _ _) (j := 24) rfl hin (by decide) hlink rfl rfl hdg kk
theorem pt_X9_24 {x : Int32} (C0 : CallFix p m c cc nL s args Ts own) (hw : q_H (gM D cI cJ cR ad adK adV N) A s σ H locs) (hk : mB N k) (hin : ∀ w ∈ wsX90, w ∈ Ts) (hlink : Cond.fieldLink own index "MouldThatComesOffModel" "fault" "I" ∈ Ts) (hdg : decode cc pc = .ok (.putfield index, 3))
    (kk : ∀ (σ1 : q_M) (H1 : Heap) (locs1 : List Loc), σ1 = q_I σ k 24 x → q_H (gM D cI cJ cR ad adK adV N) A s σ1 H1 locs1 → W p l e R s m args below meth c H1 locs1 cells slots Q (F0 m (pc + 3) ls rest)) : W p l e R s m args below meth c H locs cells slots Q (F0 m pc ls (.int x :: .ref (ad k) :: rest)) :=
  q_put (σ' := q_I σ k 24 x) (ty := .int) C0 hw (mN_0 hk) (mE_0 hk _ _) (by rw [mE_0 hk]; simp [q_I]) (fun a h => ⟨q_I_off h, rfl⟩) (j := 24) rfl hin tyX9 tyX9_ok nmX9 (by decide) hlink rfl rfl (by decide +kernel) rfl rfl (by simp) hdg (fun H1 locs1 hw => kk _ H1 locs1 rfl hw)
theorem gt_X9_25 (C0 : CallFix p m c cc nL s args Ts own) (hw : q_H (gM D cI cJ cR ad adK adV N) A s σ H locs) (hk : mB N k) (hin : ∀ w ∈ wsX90, w ∈ Ts) (hlink : Cond.fieldLink own index "MouldThatComesOffModel" "told" "[I" ∈ Ts) (hdg : decode cc pc = .ok (.getfield index, 3))
    (kk : W p l e R s m args below meth c H locs cells slots Q (F0 m (pc + 3) ls (.ref (ad (k + 13)) :: rest))) : W p l e R s m args below meth c H locs cells slots Q (F0 m pc ls (.ref (ad k) :: rest)) :=
  q_get C0 hw (mN_0 hk) (mE_0 hk _ _) (j := 25) rfl hin (by decide) hlink rfl rfl hdg kk
theorem gt_X9_26 (C0 : CallFix p m c cc nL s args Ts own) (hw : q_H (gM D cI cJ cR ad adK adV N) A s σ H locs) (hk : mB N k) (hin : ∀ w ∈ wsX90, w ∈ Ts) (hlink : Cond.fieldLink own index "MouldThatComesOffModel" "statements" "I" ∈ Ts) (hdg : decode cc pc = .ok (.getfield index, 3))
    (kk : W p l e R s m args below meth c H locs cells slots Q (F0 m (pc + 3) ls (.int (σ.1 k 26) :: rest))) : W p l e R s m args below meth c H locs cells slots Q (F0 m pc ls (.ref (ad k) :: rest)) :=
  q_get C0 hw (mN_0 hk) (mE_0 hk _ _) (j := 26) rfl hin (by decide) hlink rfl rfl hdg kk
theorem pt_X9_26 {x : Int32} (C0 : CallFix p m c cc nL s args Ts own) (hw : q_H (gM D cI cJ cR ad adK adV N) A s σ H locs) (hk : mB N k) (hin : ∀ w ∈ wsX90, w ∈ Ts) (hlink : Cond.fieldLink own index "MouldThatComesOffModel" "statements" "I" ∈ Ts) (hdg : decode cc pc = .ok (.putfield index, 3))
    (kk : ∀ (σ1 : q_M) (H1 : Heap) (locs1 : List Loc), σ1 = q_I σ k 26 x → q_H (gM D cI cJ cR ad adK adV N) A s σ1 H1 locs1 → W p l e R s m args below meth c H1 locs1 cells slots Q (F0 m (pc + 3) ls rest)) : W p l e R s m args below meth c H locs cells slots Q (F0 m pc ls (.int x :: .ref (ad k) :: rest)) :=
  q_put (σ' := q_I σ k 26 x) (ty := .int) C0 hw (mN_0 hk) (mE_0 hk _ _) (by rw [mE_0 hk]; simp [q_I]) (fun a h => ⟨q_I_off h, rfl⟩) (j := 26) rfl hin tyX9 tyX9_ok nmX9 (by decide) hlink rfl rfl (by decide +kernel) rfl rfl (by simp) hdg (fun H1 locs1 hw => kk _ H1 locs1 rfl hw)
theorem gt_X9_27 (C0 : CallFix p m c cc nL s args Ts own) (hw : q_H (gM D cI cJ cR ad adK adV N) A s σ H locs) (hk : mB N k) (hin : ∀ w ∈ wsX90, w ∈ Ts) (hlink : Cond.fieldLink own index "MouldThatComesOffModel" "ahead" "LMouldThatComesOffModel;" ∈ Ts) (hdg : decode cc pc = .ok (.getfield index, 3))
    (kk : W p l e R s m args below meth c H locs cells slots Q (F0 m (pc + 3) ls (mRn ad (σ.1 k 27) :: rest))) : W p l e R s m args below meth c H locs cells slots Q (F0 m pc ls (.ref (ad k) :: rest)) :=
  q_get C0 hw (mN_0 hk) (mE_0 hk _ _) (j := 27) rfl hin (by decide) hlink rfl rfl hdg kk
theorem gt_X9_28 (C0 : CallFix p m c cc nL s args Ts own) (hw : q_H (gM D cI cJ cR ad adK adV N) A s σ H locs) (hk : mB N k) (hin : ∀ w ∈ wsX90, w ∈ Ts) (hlink : Cond.fieldLink own index "MouldThatComesOffModel" "wrongAt" "I" ∈ Ts) (hdg : decode cc pc = .ok (.getfield index, 3))
    (kk : W p l e R s m args below meth c H locs cells slots Q (F0 m (pc + 3) ls (.int (σ.1 k 28) :: rest))) : W p l e R s m args below meth c H locs cells slots Q (F0 m pc ls (.ref (ad k) :: rest)) :=
  q_get C0 hw (mN_0 hk) (mE_0 hk _ _) (j := 28) rfl hin (by decide) hlink rfl rfl hdg kk
theorem pt_X9_28 {x : Int32} (C0 : CallFix p m c cc nL s args Ts own) (hw : q_H (gM D cI cJ cR ad adK adV N) A s σ H locs) (hk : mB N k) (hin : ∀ w ∈ wsX90, w ∈ Ts) (hlink : Cond.fieldLink own index "MouldThatComesOffModel" "wrongAt" "I" ∈ Ts) (hdg : decode cc pc = .ok (.putfield index, 3))
    (kk : ∀ (σ1 : q_M) (H1 : Heap) (locs1 : List Loc), σ1 = q_I σ k 28 x → q_H (gM D cI cJ cR ad adK adV N) A s σ1 H1 locs1 → W p l e R s m args below meth c H1 locs1 cells slots Q (F0 m (pc + 3) ls rest)) : W p l e R s m args below meth c H locs cells slots Q (F0 m pc ls (.int x :: .ref (ad k) :: rest)) :=
  q_put (σ' := q_I σ k 28 x) (ty := .int) C0 hw (mN_0 hk) (mE_0 hk _ _) (by rw [mE_0 hk]; simp [q_I]) (fun a h => ⟨q_I_off h, rfl⟩) (j := 28) rfl hin tyX9 tyX9_ok nmX9 (by decide) hlink rfl rfl (by decide +kernel) rfl rfl (by simp) hdg (fun H1 locs1 hw => kk _ H1 locs1 rfl hw)
theorem gt_X9_29 (C0 : CallFix p m c cc nL s args Ts own) (hw : q_H (gM D cI cJ cR ad adK adV N) A s σ H locs) (hk : mB N k) (hin : ∀ w ∈ wsX90, w ∈ Ts) (hlink : Cond.fieldLink own index "MouldThatComesOffModel" "orderPiece" "[I" ∈ Ts) (hdg : decode cc pc = .ok (.getfield index, 3))
    (kk : W p l e R s m args below meth c H locs cells slots Q (F0 m (pc + 3) ls (.ref (ad (k + 14)) :: rest))) : W p l e R s m args below meth c H locs cells slots Q (F0 m pc ls (.ref (ad k) :: rest)) :=
  q_get C0 hw (mN_0 hk) (mE_0 hk _ _) (j := 29) rfl hin (by decide) hlink rfl rfl hdg kk
theorem gt_X9_30 (C0 : CallFix p m c cc nL s args Ts own) (hw : q_H (gM D cI cJ cR ad adK adV N) A s σ H locs) (hk : mB N k) (hin : ∀ w ∈ wsX90, w ∈ Ts) (hlink : Cond.fieldLink own index "MouldThatComesOffModel" "orderShelf" "[I" ∈ Ts) (hdg : decode cc pc = .ok (.getfield index, 3))
    (kk : W p l e R s m args below meth c H locs cells slots Q (F0 m (pc + 3) ls (.ref (ad (k + 15)) :: rest))) : W p l e R s m args below meth c H locs cells slots Q (F0 m pc ls (.ref (ad k) :: rest)) :=
  q_get C0 hw (mN_0 hk) (mE_0 hk _ _) (j := 30) rfl hin (by decide) hlink rfl rfl hdg kk
theorem gt_X9_31 (C0 : CallFix p m c cc nL s args Ts own) (hw : q_H (gM D cI cJ cR ad adK adV N) A s σ H locs) (hk : mB N k) (hin : ∀ w ∈ wsX90, w ∈ Ts) (hlink : Cond.fieldLink own index "MouldThatComesOffModel" "ordered" "I" ∈ Ts) (hdg : decode cc pc = .ok (.getfield index, 3))
    (kk : W p l e R s m args below meth c H locs cells slots Q (F0 m (pc + 3) ls (.int (σ.1 k 31) :: rest))) : W p l e R s m args below meth c H locs cells slots Q (F0 m pc ls (.ref (ad k) :: rest)) :=
  q_get C0 hw (mN_0 hk) (mE_0 hk _ _) (j := 31) rfl hin (by decide) hlink rfl rfl hdg kk
theorem pt_X9_31 {x : Int32} (C0 : CallFix p m c cc nL s args Ts own) (hw : q_H (gM D cI cJ cR ad adK adV N) A s σ H locs) (hk : mB N k) (hin : ∀ w ∈ wsX90, w ∈ Ts) (hlink : Cond.fieldLink own index "MouldThatComesOffModel" "ordered" "I" ∈ Ts) (hdg : decode cc pc = .ok (.putfield index, 3))
    (kk : ∀ (σ1 : q_M) (H1 : Heap) (locs1 : List Loc), σ1 = q_I σ k 31 x → q_H (gM D cI cJ cR ad adK adV N) A s σ1 H1 locs1 → W p l e R s m args below meth c H1 locs1 cells slots Q (F0 m (pc + 3) ls rest)) : W p l e R s m args below meth c H locs cells slots Q (F0 m pc ls (.int x :: .ref (ad k) :: rest)) :=
  q_put (σ' := q_I σ k 31 x) (ty := .int) C0 hw (mN_0 hk) (mE_0 hk _ _) (by rw [mE_0 hk]; simp [q_I]) (fun a h => ⟨q_I_off h, rfl⟩) (j := 31) rfl hin tyX9 tyX9_ok nmX9 (by decide) hlink rfl rfl (by decide +kernel) rfl rfl (by simp) hdg (fun H1 locs1 hw => kk _ H1 locs1 rfl hw)
theorem gt_X9_32 (C0 : CallFix p m c cc nL s args Ts own) (hw : q_H (gM D cI cJ cR ad adK adV N) A s σ H locs) (hk : mB N k) (hin : ∀ w ∈ wsX90, w ∈ Ts) (hlink : Cond.fieldLink own index "MouldThatComesOffModel" "frees" "[I" ∈ Ts) (hdg : decode cc pc = .ok (.getfield index, 3))
    (kk : W p l e R s m args below meth c H locs cells slots Q (F0 m (pc + 3) ls (.ref (ad (k + 16)) :: rest))) : W p l e R s m args below meth c H locs cells slots Q (F0 m pc ls (.ref (ad k) :: rest)) :=
  q_get C0 hw (mN_0 hk) (mE_0 hk _ _) (j := 32) rfl hin (by decide) hlink rfl rfl hdg kk
theorem gt_X9_33 (C0 : CallFix p m c cc nL s args Ts own) (hw : q_H (gM D cI cJ cR ad adK adV N) A s σ H locs) (hk : mB N k) (hin : ∀ w ∈ wsX90, w ∈ Ts) (hlink : Cond.fieldLink own index "MouldThatComesOffModel" "wayOf" "[I" ∈ Ts) (hdg : decode cc pc = .ok (.getfield index, 3))
    (kk : W p l e R s m args below meth c H locs cells slots Q (F0 m (pc + 3) ls (.ref (ad (k + 17)) :: rest))) : W p l e R s m args below meth c H locs cells slots Q (F0 m pc ls (.ref (ad k) :: rest)) :=
  q_get C0 hw (mN_0 hk) (mE_0 hk _ _) (j := 33) rfl hin (by decide) hlink rfl rfl hdg kk
theorem gt_X9_34 (C0 : CallFix p m c cc nL s args Ts own) (hw : q_H (gM D cI cJ cR ad adK adV N) A s σ H locs) (hk : mB N k) (hin : ∀ w ∈ wsX90, w ∈ Ts) (hlink : Cond.fieldLink own index "MouldThatComesOffModel" "found" "[J" ∈ Ts) (hdg : decode cc pc = .ok (.getfield index, 3))
    (kk : W p l e R s m args below meth c H locs cells slots Q (F0 m (pc + 3) ls (.ref (ad (k + 18)) :: rest))) : W p l e R s m args below meth c H locs cells slots Q (F0 m pc ls (.ref (ad k) :: rest)) :=
  q_get C0 hw (mN_0 hk) (mE_0 hk _ _) (j := 34) rfl hin (by decide) hlink rfl rfl hdg kk
theorem gt_X9_35 (C0 : CallFix p m c cc nL s args Ts own) (hw : q_H (gM D cI cJ cR ad adK adV N) A s σ H locs) (hk : mB N k) (hin : ∀ w ∈ wsX90, w ∈ Ts) (hlink : Cond.fieldLink own index "MouldThatComesOffModel" "to" "[I" ∈ Ts) (hdg : decode cc pc = .ok (.getfield index, 3))
    (kk : W p l e R s m args below meth c H locs cells slots Q (F0 m (pc + 3) ls (.ref (ad (k + 19)) :: rest))) : W p l e R s m args below meth c H locs cells slots Q (F0 m pc ls (.ref (ad k) :: rest)) :=
  q_get C0 hw (mN_0 hk) (mE_0 hk _ _) (j := 35) rfl hin (by decide) hlink rfl rfl hdg kk
theorem gt_X9_36 (C0 : CallFix p m c cc nL s args Ts own) (hw : q_H (gM D cI cJ cR ad adK adV N) A s σ H locs) (hk : mB N k) (hin : ∀ w ∈ wsX90, w ∈ Ts) (hlink : Cond.fieldLink own index "MouldThatComesOffModel" "showed" "[I" ∈ Ts) (hdg : decode cc pc = .ok (.getfield index, 3))
    (kk : W p l e R s m args below meth c H locs cells slots Q (F0 m (pc + 3) ls (.ref (ad (k + 20)) :: rest))) : W p l e R s m args below meth c H locs cells slots Q (F0 m pc ls (.ref (ad k) :: rest)) :=
  q_get C0 hw (mN_0 hk) (mE_0 hk _ _) (j := 36) rfl hin (by decide) hlink rfl rfl hdg kk
theorem m_aald {i : Int32} (C0 : CallFix p m c cc nL s args Ts own) (hw : q_H (gM D cI cJ cR ad adK adV N) A s σ H locs) (hk : mB N k) (hin : ¬ (i < 0 ∨ 8 ≤ i.toNatClampNeg)) (hdg : decode cc pc = .ok (.aaload, 1))
    (kk : W p l e R s m args below meth c H locs cells slots Q (F0 m (pc + 1) ls (.ref (ad (k + 21 + i.toNatClampNeg)) :: rest))) : W p l e R s m args below meth c H locs cells slots Q (F0 m pc ls (.int i :: .ref (ad (k + 4)) :: rest)) := by
  have hlt : i.toNatClampNeg < 8 := Nat.not_le.mp fun q => hin (Or.inr q)
  have ha : (q_ws (gM D cI cJ cR ad adK adV N) σ)[k + 4]? = some (ad (k + 4), .inl (cR, 8, .inr (.inr (.inr (.inr (fun i => some (ad (k + 21 + i)))))))) := by rw [q_ws_at (mN_4 hk), mE_4 hk]
  have ht : (gM D cI cJ cR ad adK adV N).2.1[2]? = some (cR, .array .long) := rfl
  exact W.aald (v := .ref (ad (k + 21 + i.toNatClampNeg))) (ty := .array .long) C0.1 C0.2.1 (hw.2.1 (k + 4) _ ha) ((hw.1.2 2 _ ht).1 8 (fun j => va_rf (some (ad (k + 21 + j))))) rfl (fun q => by cases q) (by show ¬ (i < 0 ∨ (arrV _ _ _).slots.size ≤ _); rw [arrV_size]; exact hin) (by show (arrV _ _ _).slots[_]? = _; rw [arrV_read _ _ hlt]; rfl) rfl rfl hdg kk
end MR
