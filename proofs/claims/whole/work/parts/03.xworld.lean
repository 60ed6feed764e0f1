/-- which kind of cell each of the 63 cells of the object is -/
def xKs : List Nat := [0, 1, 2, 3, 4, 5, 6, 7, 1, 2, 3, 4, 5, 6, 7, 1, 2, 3, 4, 5, 6, 7, 8, 9, 10, 11, 12, 12, 13, 14, 14, 15, 16, 17, 18, 15, 16, 17, 18, 15, 16, 17, 18, 15, 16, 17, 18, 15, 16, 17, 18, 15, 16, 17, 18, 15, 16, 17, 18, 15, 16, 17, 18]
def xK (k : Nat) : Nat := xKs.getD k 99
def xE (cI cJ cS : ClassId) (ad : Nat → Nat) (k : Nat) (f : Nat → Int32) (h : Nat → Int64) : va_E := match xK k with
  | 0 => .inr (7, [.ref (ad 1), .ref (ad 8), .ref (ad 15), .int (f 3), .ref (ad 22), .ref (ad 23), .ref (ad 25), .ref (ad 28), .ref (ad 29), .ref (ad 30), .int (f 10), .int (f 11)])
  | 1 => .inr (2, [.ref (ad (k + 1)), .long (h 1), .int (f 2), .int (f 3), .int (f 4), .int (f 5), .ref (ad (k + 5)), .ref (ad (k + 6))])
  | 2 => .inr (0, [.int (f 0), .int (f 1), .long (h 2), .ref (ad (k + 1)), .ref (ad (k + 2)), .ref (ad (k + 3))])
  | 3 => .inl (cI, 3, .inl f)
  | 4 => .inl (cJ, 12, .inr (.inl h))
  | 5 => .inl (cJ, 6, .inr (.inl h))
  | 6 => .inl (cJ, 8, .inr (.inl h))
  | 7 => .inl (cJ, 4, .inr (.inl h))
  | 8 => .inl (cS, 8, .inr (.inr (.inr (.inr (fun i => some (ad (31 + 4 * i)))))))
  | 9 => .inr (6, [.int (f 0), .int (f 1), .int (f 2), .int (f 3), .ref (ad 24)])
  | 10 => .inl (cI, 250, .inl f)
  | 11 => .inr (1, [.long (h 0), .ref (ad 26), .ref (ad 27)])
  | 12 => .inl (cJ, 6, .inr (.inl h))
  | 13 => .inl (cI, 5, .inl f)
  | 14 => .inl (cI, 8, .inl f)
  | 15 => .inr (5, [.int (f 0), .ref (ad (k + 1)), .ref (ad (k + 3))])
  | 16 => .inr (4, [.int (f 0), .int (f 1), .ref (ad (k + 1))])
  | 17 => .inl (cJ, 40, .inr (.inl h))
  | 18 => .inr (3, [.int (f 0), .int (f 1), .int (f 2)])
  | _ => .inr (99, [])
abbrev gX (D : va_G) (cI cJ cS : ClassId) (ad adK adV : Nat → Nat) : q_G := (D, [(cI, .int), (cJ, .long), (cS, .object "MouldThatComesOff$Shelf")], 63, ad, xE cI cJ cS ad, (adK, adV))
theorem xN {k c : Nat} (h : xK k = c) (hc : c < 99) : k < 63 := by
  rcases Nat.lt_or_ge k 63 with q | q
  · exact q
  · have q2 : xKs[k]? = none := List.getElem?_eq_none (show xKs.length ≤ k from q)
    simp [xK, List.getD, q2] at h
    omega
theorem xAll (P : Nat → Prop) {k c : Nat} (h : xK k = c) (hc : c < 99) (hp : ∀ k, k < 63 → xK k = c → P k) : P k := hp k (xN h hc) h
section XW
variable {D : va_G} {cI cJ cS : ClassId} {ad adK adV : Nat → Nat}
theorem xN_0 {k : Nat} (h : xK k = 0) : k < (gX D cI cJ cS ad adK adV).2.2.1 := xN h (by decide)
theorem xE_0 {k : Nat} (h0 : xK k = 0) : ∀ f h, (gX D cI cJ cS ad adK adV).2.2.2.2.1 k f h = .inr (7, [.ref (ad 1), .ref (ad 8), .ref (ad 15), .int (f 3), .ref (ad 22), .ref (ad 23), .ref (ad 25), .ref (ad 28), .ref (ad 29), .ref (ad 30), .int (f 10), .int (f 11)]) := by
  intro f h
  show xE cI cJ cS ad k f h = _
  simp only [xE, h0]
theorem xN_1 {k : Nat} (h : xK k = 1) : k < (gX D cI cJ cS ad adK adV).2.2.1 := xN h (by decide)
theorem xE_1 {k : Nat} (h0 : xK k = 1) : ∀ f h, (gX D cI cJ cS ad adK adV).2.2.2.2.1 k f h = .inr (2, [.ref (ad (k + 1)), .long (h 1), .int (f 2), .int (f 3), .int (f 4), .int (f 5), .ref (ad (k + 5)), .ref (ad (k + 6))]) := by
  intro f h
  show xE cI cJ cS ad k f h = _
  simp only [xE, h0]
theorem xN_2 {k : Nat} (h : xK k = 2) : k < (gX D cI cJ cS ad adK adV).2.2.1 := xN h (by decide)
theorem xE_2 {k : Nat} (h0 : xK k = 2) : ∀ f h, (gX D cI cJ cS ad adK adV).2.2.2.2.1 k f h = .inr (0, [.int (f 0), .int (f 1), .long (h 2), .ref (ad (k + 1)), .ref (ad (k + 2)), .ref (ad (k + 3))]) := by
  intro f h
  show xE cI cJ cS ad k f h = _
  simp only [xE, h0]
theorem xN_3 {k : Nat} (h : xK k = 3) : k < (gX D cI cJ cS ad adK adV).2.2.1 := xN h (by decide)
theorem xE_3 {k : Nat} (h0 : xK k = 3) : ∀ f h, (gX D cI cJ cS ad adK adV).2.2.2.2.1 k f h = .inl (cI, 3, .inl f) := by
  intro f h
  show xE cI cJ cS ad k f h = _
  simp only [xE, h0]
theorem xN_4 {k : Nat} (h : xK k = 4) : k < (gX D cI cJ cS ad adK adV).2.2.1 := xN h (by decide)
theorem xE_4 {k : Nat} (h0 : xK k = 4) : ∀ f h, (gX D cI cJ cS ad adK adV).2.2.2.2.1 k f h = .inl (cJ, 12, .inr (.inl h)) := by
  intro f h
  show xE cI cJ cS ad k f h = _
  simp only [xE, h0]
theorem xN_5 {k : Nat} (h : xK k = 5) : k < (gX D cI cJ cS ad adK adV).2.2.1 := xN h (by decide)
theorem xE_5 {k : Nat} (h0 : xK k = 5) : ∀ f h, (gX D cI cJ cS ad adK adV).2.2.2.2.1 k f h = .inl (cJ, 6, .inr (.inl h)) := by
  intro f h
  show xE cI cJ cS ad k f h = _
  simp only [xE, h0]
theorem xN_6 {k : Nat} (h : xK k = 6) : k < (gX D cI cJ cS ad adK adV).2.2.1 := xN h (by decide)
theorem xE_6 {k : Nat} (h0 : xK k = 6) : ∀ f h, (gX D cI cJ cS ad adK adV).2.2.2.2.1 k f h = .inl (cJ, 8, .inr (.inl h)) := by
  intro f h
  show xE cI cJ cS ad k f h = _
  simp only [xE, h0]
theorem xN_7 {k : Nat} (h : xK k = 7) : k < (gX D cI cJ cS ad adK adV).2.2.1 := xN h (by decide)
theorem xE_7 {k : Nat} (h0 : xK k = 7) : ∀ f h, (gX D cI cJ cS ad adK adV).2.2.2.2.1 k f h = .inl (cJ, 4, .inr (.inl h)) := by
  intro f h
  show xE cI cJ cS ad k f h = _
  simp only [xE, h0]
theorem xN_8 {k : Nat} (h : xK k = 8) : k < (gX D cI cJ cS ad adK adV).2.2.1 := xN h (by decide)
theorem xE_8 {k : Nat} (h0 : xK k = 8) : ∀ f h, (gX D cI cJ cS ad adK adV).2.2.2.2.1 k f h = .inl (cS, 8, .inr (.inr (.inr (.inr (fun i => some (ad (31 + 4 * i))))))) := by
  intro f h
  show xE cI cJ cS ad k f h = _
  simp only [xE, h0]
theorem xN_9 {k : Nat} (h : xK k = 9) : k < (gX D cI cJ cS ad adK adV).2.2.1 := xN h (by decide)
theorem xE_9 {k : Nat} (h0 : xK k = 9) : ∀ f h, (gX D cI cJ cS ad adK adV).2.2.2.2.1 k f h = .inr (6, [.int (f 0), .int (f 1), .int (f 2), .int (f 3), .ref (ad 24)]) := by
  intro f h
  show xE cI cJ cS ad k f h = _
  simp only [xE, h0]
theorem xN_10 {k : Nat} (h : xK k = 10) : k < (gX D cI cJ cS ad adK adV).2.2.1 := xN h (by decide)
theorem xE_10 {k : Nat} (h0 : xK k = 10) : ∀ f h, (gX D cI cJ cS ad adK adV).2.2.2.2.1 k f h = .inl (cI, 250, .inl f) := by
  intro f h
  show xE cI cJ cS ad k f h = _
  simp only [xE, h0]
theorem xN_11 {k : Nat} (h : xK k = 11) : k < (gX D cI cJ cS ad adK adV).2.2.1 := xN h (by decide)
theorem xE_11 {k : Nat} (h0 : xK k = 11) : ∀ f h, (gX D cI cJ cS ad adK adV).2.2.2.2.1 k f h = .inr (1, [.long (h 0), .ref (ad 26), .ref (ad 27)]) := by
  intro f h
  show xE cI cJ cS ad k f h = _
  simp only [xE, h0]
theorem xN_12 {k : Nat} (h : xK k = 12) : k < (gX D cI cJ cS ad adK adV).2.2.1 := xN h (by decide)
theorem xE_12 {k : Nat} (h0 : xK k = 12) : ∀ f h, (gX D cI cJ cS ad adK adV).2.2.2.2.1 k f h = .inl (cJ, 6, .inr (.inl h)) := by
  intro f h
  show xE cI cJ cS ad k f h = _
  simp only [xE, h0]
theorem xN_13 {k : Nat} (h : xK k = 13) : k < (gX D cI cJ cS ad adK adV).2.2.1 := xN h (by decide)
theorem xE_13 {k : Nat} (h0 : xK k = 13) : ∀ f h, (gX D cI cJ cS ad adK adV).2.2.2.2.1 k f h = .inl (cI, 5, .inl f) := by
  intro f h
  show xE cI cJ cS ad k f h = _
  simp only [xE, h0]
theorem xN_14 {k : Nat} (h : xK k = 14) : k < (gX D cI cJ cS ad adK adV).2.2.1 := xN h (by decide)
theorem xE_14 {k : Nat} (h0 : xK k = 14) : ∀ f h, (gX D cI cJ cS ad adK adV).2.2.2.2.1 k f h = .inl (cI, 8, .inl f) := by
  intro f h
  show xE cI cJ cS ad k f h = _
  simp only [xE, h0]
theorem xN_15 {k : Nat} (h : xK k = 15) : k < (gX D cI cJ cS ad adK adV).2.2.1 := xN h (by decide)
theorem xE_15 {k : Nat} (h0 : xK k = 15) : ∀ f h, (gX D cI cJ cS ad adK adV).2.2.2.2.1 k f h = .inr (5, [.int (f 0), .ref (ad (k + 1)), .ref (ad (k + 3))]) := by
  intro f h
  show xE cI cJ cS ad k f h = _
  simp only [xE, h0]
theorem xN_16 {k : Nat} (h : xK k = 16) : k < (gX D cI cJ cS ad adK adV).2.2.1 := xN h (by decide)
theorem xE_16 {k : Nat} (h0 : xK k = 16) : ∀ f h, (gX D cI cJ cS ad adK adV).2.2.2.2.1 k f h = .inr (4, [.int (f 0), .int (f 1), .ref (ad (k + 1))]) := by
  intro f h
  show xE cI cJ cS ad k f h = _
  simp only [xE, h0]
theorem xN_17 {k : Nat} (h : xK k = 17) : k < (gX D cI cJ cS ad adK adV).2.2.1 := xN h (by decide)
theorem xE_17 {k : Nat} (h0 : xK k = 17) : ∀ f h, (gX D cI cJ cS ad adK adV).2.2.2.2.1 k f h = .inl (cJ, 40, .inr (.inl h)) := by
  intro f h
  show xE cI cJ cS ad k f h = _
  simp only [xE, h0]
theorem xN_18 {k : Nat} (h : xK k = 18) : k < (gX D cI cJ cS ad adK adV).2.2.1 := xN h (by decide)
theorem xE_18 {k : Nat} (h0 : xK k = 18) : ∀ f h, (gX D cI cJ cS ad adK adV).2.2.2.2.1 k f h = .inr (3, [.int (f 0), .int (f 1), .int (f 2)]) := by
  intro f h
  show xE cI cJ cS ad k f h = _
  simp only [xE, h0]
end XW
theorem xF_0 : xK 0 = 0 := rfl
theorem xF_1 : xK 1 = 1 := rfl
theorem xF_2 : xK 2 = 2 := rfl
theorem xF_3 : xK 3 = 3 := rfl
theorem xF_4 : xK 4 = 4 := rfl
theorem xF_5 : xK 5 = 5 := rfl
theorem xF_6 : xK 6 = 6 := rfl
theorem xF_7 : xK 7 = 7 := rfl
theorem xF_8 : xK 8 = 1 := rfl
theorem xF_9 : xK 9 = 2 := rfl
theorem xF_10 : xK 10 = 3 := rfl
theorem xF_11 : xK 11 = 4 := rfl
theorem xF_12 : xK 12 = 5 := rfl
theorem xF_13 : xK 13 = 6 := rfl
theorem xF_14 : xK 14 = 7 := rfl
theorem xF_15 : xK 15 = 1 := rfl
theorem xF_16 : xK 16 = 2 := rfl
theorem xF_17 : xK 17 = 3 := rfl
theorem xF_18 : xK 18 = 4 := rfl
theorem xF_19 : xK 19 = 5 := rfl
theorem xF_20 : xK 20 = 6 := rfl
theorem xF_21 : xK 21 = 7 := rfl
theorem xF_22 : xK 22 = 8 := rfl
theorem xF_23 : xK 23 = 9 := rfl
theorem xF_24 : xK 24 = 10 := rfl
theorem xF_25 : xK 25 = 11 := rfl
theorem xF_26 : xK 26 = 12 := rfl
theorem xF_27 : xK 27 = 12 := rfl
theorem xF_28 : xK 28 = 13 := rfl
theorem xF_29 : xK 29 = 14 := rfl
theorem xF_30 : xK 30 = 14 := rfl
theorem xF_31 : xK 31 = 15 := rfl
theorem xF_32 : xK 32 = 16 := rfl
theorem xF_33 : xK 33 = 17 := rfl
theorem xF_34 : xK 34 = 18 := rfl
theorem xF_35 : xK 35 = 15 := rfl
theorem xF_36 : xK 36 = 16 := rfl
theorem xF_37 : xK 37 = 17 := rfl
theorem xF_38 : xK 38 = 18 := rfl
theorem xF_39 : xK 39 = 15 := rfl
theorem xF_40 : xK 40 = 16 := rfl
theorem xF_41 : xK 41 = 17 := rfl
theorem xF_42 : xK 42 = 18 := rfl
theorem xF_43 : xK 43 = 15 := rfl
theorem xF_44 : xK 44 = 16 := rfl
theorem xF_45 : xK 45 = 17 := rfl
theorem xF_46 : xK 46 = 18 := rfl
theorem xF_47 : xK 47 = 15 := rfl
theorem xF_48 : xK 48 = 16 := rfl
theorem xF_49 : xK 49 = 17 := rfl
theorem xF_50 : xK 50 = 18 := rfl
theorem xF_51 : xK 51 = 15 := rfl
theorem xF_52 : xK 52 = 16 := rfl
theorem xF_53 : xK 53 = 17 := rfl
theorem xF_54 : xK 54 = 18 := rfl
theorem xF_55 : xK 55 = 15 := rfl
theorem xF_56 : xK 56 = 16 := rfl
theorem xF_57 : xK 57 = 17 := rfl
theorem xF_58 : xK 58 = 18 := rfl
theorem xF_59 : xK 59 = 15 := rfl
theorem xF_60 : xK 60 = 16 := rfl
theorem xF_61 : xK 61 = 17 := rfl
theorem xF_62 : xK 62 = 18 := rfl
theorem xD_2_1 {k : Nat} (h : xK k = 2) : xK (k + 1) = 3 := xAll (fun k => xK (k + 1) = 3) h (by decide) (by decide +kernel)
theorem xD_2_2 {k : Nat} (h : xK k = 2) : xK (k + 2) = 4 := xAll (fun k => xK (k + 2) = 4) h (by decide) (by decide +kernel)
theorem xD_2_3 {k : Nat} (h : xK k = 2) : xK (k + 3) = 5 := xAll (fun k => xK (k + 3) = 5) h (by decide) (by decide +kernel)
theorem xD_1_1 {k : Nat} (h : xK k = 1) : xK (k + 1) = 2 := xAll (fun k => xK (k + 1) = 2) h (by decide) (by decide +kernel)
theorem xD_1_5 {k : Nat} (h : xK k = 1) : xK (k + 5) = 6 := xAll (fun k => xK (k + 5) = 6) h (by decide) (by decide +kernel)
theorem xD_1_6 {k : Nat} (h : xK k = 1) : xK (k + 6) = 7 := xAll (fun k => xK (k + 6) = 7) h (by decide) (by decide +kernel)
theorem xD_16_1 {k : Nat} (h : xK k = 16) : xK (k + 1) = 17 := xAll (fun k => xK (k + 1) = 17) h (by decide) (by decide +kernel)
theorem xD_15_1 {k : Nat} (h : xK k = 15) : xK (k + 1) = 16 := xAll (fun k => xK (k + 1) = 16) h (by decide) (by decide +kernel)
theorem xD_15_3 {k : Nat} (h : xK k = 15) : xK (k + 3) = 18 := xAll (fun k => xK (k + 3) = 18) h (by decide) (by decide +kernel)
theorem xSh {i : Int32} (h : ¬ (i < 0 ∨ 8 ≤ i.toNatClampNeg)) : xK (31 + 4 * i.toNatClampNeg) = 15 := by
  have h1 : i.toNatClampNeg < 8 := Nat.not_le.mp fun q => h (Or.inr q)
  generalize i.toNatClampNeg = j at h1
  revert j
  decide +kernel
section XR
variable {p : Program} {l : Launch} {e : Env} {R : Room} {s : State} {m : MethodId} {args : Array Value} {below : List Frame} {meth : Method} {c : Code} {H : Heap} {locs : List Loc} {cells slots : Nat} {Q : State → Prop}
variable {cc : ByteArray} {nL index pc : Nat} {Ts : List Cond} {own : String} {rest : List Value} {ls : Array Slot} {A : Nat → Prop} {σ : q_M} {D : va_G} {cI cJ cS : ClassId} {ad adK adV : Nat → Nat} {k : Nat}
theorem gt_X0_0 (C0 : CallFix p m c cc nL s args Ts own) (hw : q_H (gX D cI cJ cS ad adK adV) A s σ H locs) (hk : xK k = 2) (hin : ∀ w ∈ wsX00, w ∈ Ts) (hlink : Cond.fieldLink own index "MouldThatComesOff$Block" "n" "I" ∈ Ts) (hdg : decode cc pc = .ok (.getfield index, 3))
    (kk : W p l e R s m args below meth c H locs cells slots Q (F0 m (pc + 3) ls (.int (σ.1 k 0) :: rest))) : W p l e R s m args below meth c H locs cells slots Q (F0 m pc ls (.ref (ad k) :: rest)) :=
  q_get C0 hw (xN_2 hk) (xE_2 hk _ _) (j := 0) rfl hin (by decide) hlink rfl rfl hdg kk
theorem pt_X0_0 {x : Int32} (C0 : CallFix p m c cc nL s args Ts own) (hw : q_H (gX D cI cJ cS ad adK adV) A s σ H locs) (hk : xK k = 2) (hin : ∀ w ∈ wsX00, w ∈ Ts) (hlink : Cond.fieldLink own index "MouldThatComesOff$Block" "n" "I" ∈ Ts) (hdg : decode cc pc = .ok (.putfield index, 3))
    (kk : ∀ (σ1 : q_M) (H1 : Heap) (locs1 : List Loc), σ1 = q_I σ k 0 x → q_H (gX D cI cJ cS ad adK adV) A s σ1 H1 locs1 → W p l e R s m args below meth c H1 locs1 cells slots Q (F0 m (pc + 3) ls rest)) : W p l e R s m args below meth c H locs cells slots Q (F0 m pc ls (.int x :: .ref (ad k) :: rest)) :=
  q_put (σ' := q_I σ k 0 x) (ty := .int) C0 hw (xN_2 hk) (xE_2 hk _ _) (by rw [xE_2 hk]; simp [q_I]) (fun a h => ⟨q_I_off h, rfl⟩) (j := 0) rfl hin tyX0 tyX0_ok nmX0 (by decide) hlink rfl rfl (by decide +kernel) rfl rfl (by simp) hdg (fun H1 locs1 hw => kk _ H1 locs1 rfl hw)
theorem gt_X0_1 (C0 : CallFix p m c cc nL s args Ts own) (hw : q_H (gX D cI cJ cS ad adK adV) A s σ H locs) (hk : xK k = 2) (hin : ∀ w ∈ wsX00, w ∈ Ts) (hlink : Cond.fieldLink own index "MouldThatComesOff$Block" "count" "I" ∈ Ts) (hdg : decode cc pc = .ok (.getfield index, 3))
    (kk : W p l e R s m args below meth c H locs cells slots Q (F0 m (pc + 3) ls (.int (σ.1 k 1) :: rest))) : W p l e R s m args below meth c H locs cells slots Q (F0 m pc ls (.ref (ad k) :: rest)) :=
  q_get C0 hw (xN_2 hk) (xE_2 hk _ _) (j := 1) rfl hin (by decide) hlink rfl rfl hdg kk
theorem pt_X0_1 {x : Int32} (C0 : CallFix p m c cc nL s args Ts own) (hw : q_H (gX D cI cJ cS ad adK adV) A s σ H locs) (hk : xK k = 2) (hin : ∀ w ∈ wsX00, w ∈ Ts) (hlink : Cond.fieldLink own index "MouldThatComesOff$Block" "count" "I" ∈ Ts) (hdg : decode cc pc = .ok (.putfield index, 3))
    (kk : ∀ (σ1 : q_M) (H1 : Heap) (locs1 : List Loc), σ1 = q_I σ k 1 x → q_H (gX D cI cJ cS ad adK adV) A s σ1 H1 locs1 → W p l e R s m args below meth c H1 locs1 cells slots Q (F0 m (pc + 3) ls rest)) : W p l e R s m args below meth c H locs cells slots Q (F0 m pc ls (.int x :: .ref (ad k) :: rest)) :=
  q_put (σ' := q_I σ k 1 x) (ty := .int) C0 hw (xN_2 hk) (xE_2 hk _ _) (by rw [xE_2 hk]; simp [q_I]) (fun a h => ⟨q_I_off h, rfl⟩) (j := 1) rfl hin tyX0 tyX0_ok nmX0 (by decide) hlink rfl rfl (by decide +kernel) rfl rfl (by simp) hdg (fun H1 locs1 hw => kk _ H1 locs1 rfl hw)
theorem gt_X0_2 (C0 : CallFix p m c cc nL s args Ts own) (hw : q_H (gX D cI cJ cS ad adK adV) A s σ H locs) (hk : xK k = 2) (hin : ∀ w ∈ wsX00, w ∈ Ts) (hlink : Cond.fieldLink own index "MouldThatComesOff$Block" "all" "J" ∈ Ts) (hdg : decode cc pc = .ok (.getfield index, 3))
    (kk : W p l e R s m args below meth c H locs cells slots Q (F0 m (pc + 3) ls (.long (σ.2 k 2) :: rest))) : W p l e R s m args below meth c H locs cells slots Q (F0 m pc ls (.ref (ad k) :: rest)) :=
  q_get C0 hw (xN_2 hk) (xE_2 hk _ _) (j := 2) rfl hin (by decide) hlink rfl rfl hdg kk
theorem pt_X0_2 {x : Int64} (C0 : CallFix p m c cc nL s args Ts own) (hw : q_H (gX D cI cJ cS ad adK adV) A s σ H locs) (hk : xK k = 2) (hin : ∀ w ∈ wsX00, w ∈ Ts) (hlink : Cond.fieldLink own index "MouldThatComesOff$Block" "all" "J" ∈ Ts) (hdg : decode cc pc = .ok (.putfield index, 3))
    (kk : ∀ (σ1 : q_M) (H1 : Heap) (locs1 : List Loc), σ1 = q_L σ k 2 x → q_H (gX D cI cJ cS ad adK adV) A s σ1 H1 locs1 → W p l e R s m args below meth c H1 locs1 cells slots Q (F0 m (pc + 3) ls rest)) : W p l e R s m args below meth c H locs cells slots Q (F0 m pc ls (.long x :: .ref (ad k) :: rest)) :=
  q_put (σ' := q_L σ k 2 x) (ty := .long) C0 hw (xN_2 hk) (xE_2 hk _ _) (by rw [xE_2 hk]; simp [q_L]) (fun a h => ⟨rfl, q_L_off h⟩) (j := 2) rfl hin tyX0 tyX0_ok nmX0 (by decide) hlink rfl rfl (by decide +kernel) rfl rfl (by simp) hdg (fun H1 locs1 hw => kk _ H1 locs1 rfl hw)
theorem gt_X0_3 (C0 : CallFix p m c cc nL s args Ts own) (hw : q_H (gX D cI cJ cS ad adK adV) A s σ H locs) (hk : xK k = 2) (hin : ∀ w ∈ wsX00, w ∈ Ts) (hlink : Cond.fieldLink own index "MouldThatComesOff$Block" "strides" "[I" ∈ Ts) (hdg : decode cc pc = .ok (.getfield index, 3))
    (kk : W p l e R s m args below meth c H locs cells slots Q (F0 m (pc + 3) ls (.ref (ad (k + 1)) :: rest))) : W p l e R s m args below meth c H locs cells slots Q (F0 m pc ls (.ref (ad k) :: rest)) :=
  q_get C0 hw (xN_2 hk) (xE_2 hk _ _) (j := 3) rfl hin (by decide) hlink rfl rfl hdg kk
theorem gt_X0_4 (C0 : CallFix p m c cc nL s args Ts own) (hw : q_H (gX D cI cJ cS ad adK adV) A s σ H locs) (hk : xK k = 2) (hin : ∀ w ∈ wsX00, w ∈ Ts) (hlink : Cond.fieldLink own index "MouldThatComesOff$Block" "layers" "[J" ∈ Ts) (hdg : decode cc pc = .ok (.getfield index, 3))
    (kk : W p l e R s m args below meth c H locs cells slots Q (F0 m (pc + 3) ls (.ref (ad (k + 2)) :: rest))) : W p l e R s m args below meth c H locs cells slots Q (F0 m pc ls (.ref (ad k) :: rest)) :=
  q_get C0 hw (xN_2 hk) (xE_2 hk _ _) (j := 4) rfl hin (by decide) hlink rfl rfl hdg kk
theorem gt_X0_5 (C0 : CallFix p m c cc nL s args Ts own) (hw : q_H (gX D cI cJ cS ad adK adV) A s σ H locs) (hk : xK k = 2) (hin : ∀ w ∈ wsX00, w ∈ Ts) (hlink : Cond.fieldLink own index "MouldThatComesOff$Block" "ends" "[J" ∈ Ts) (hdg : decode cc pc = .ok (.getfield index, 3))
    (kk : W p l e R s m args below meth c H locs cells slots Q (F0 m (pc + 3) ls (.ref (ad (k + 3)) :: rest))) : W p l e R s m args below meth c H locs cells slots Q (F0 m pc ls (.ref (ad k) :: rest)) :=
  q_get C0 hw (xN_2 hk) (xE_2 hk _ _) (j := 5) rfl hin (by decide) hlink rfl rfl hdg kk
theorem gt_X1_0 (C0 : CallFix p m c cc nL s args Ts own) (hw : q_H (gX D cI cJ cS ad adK adV) A s σ H locs) (hk : xK k = 11) (hin : ∀ w ∈ wsX10, w ∈ Ts) (hlink : Cond.fieldLink own index "MouldThatComesOff$Leaving" "empty" "J" ∈ Ts) (hdg : decode cc pc = .ok (.getfield index, 3))
    (kk : W p l e R s m args below meth c H locs cells slots Q (F0 m (pc + 3) ls (.long (σ.2 k 0) :: rest))) : W p l e R s m args below meth c H locs cells slots Q (F0 m pc ls (.ref (ad k) :: rest)) :=
  q_get C0 hw (xN_11 hk) (xE_11 hk _ _) (j := 0) rfl hin (by decide) hlink rfl rfl hdg kk
theorem pt_X1_0 {x : Int64} (C0 : CallFix p m c cc nL s args Ts own) (hw : q_H (gX D cI cJ cS ad adK adV) A s σ H locs) (hk : xK k = 11) (hin : ∀ w ∈ wsX10, w ∈ Ts) (hlink : Cond.fieldLink own index "MouldThatComesOff$Leaving" "empty" "J" ∈ Ts) (hdg : decode cc pc = .ok (.putfield index, 3))
    (kk : ∀ (σ1 : q_M) (H1 : Heap) (locs1 : List Loc), σ1 = q_L σ k 0 x → q_H (gX D cI cJ cS ad adK adV) A s σ1 H1 locs1 → W p l e R s m args below meth c H1 locs1 cells slots Q (F0 m (pc + 3) ls rest)) : W p l e R s m args below meth c H locs cells slots Q (F0 m pc ls (.long x :: .ref (ad k) :: rest)) :=
  q_put (σ' := q_L σ k 0 x) (ty := .long) C0 hw (xN_11 hk) (xE_11 hk _ _) (by rw [xE_11 hk]; simp [q_L]) (fun a h => ⟨rfl, q_L_off h⟩) (j := 0) rfl hin tyX1 tyX1_ok nmX1 (by decide) hlink rfl rfl (by decide +kernel) rfl rfl (by simp) hdg (fun H1 locs1 hw => kk _ H1 locs1 rfl hw)
theorem gt_X1_1 (C0 : CallFix p m c cc nL s args Ts own) (hw : q_H (gX D cI cJ cS ad adK adV) A s σ H locs) (hk : xK k = 11) (hin : ∀ w ∈ wsX10, w ∈ Ts) (hlink : Cond.fieldLink own index "MouldThatComesOff$Leaving" "freeBy" "[J" ∈ Ts) (hdg : decode cc pc = .ok (.getfield index, 3))
    (kk : W p l e R s m args below meth c H locs cells slots Q (F0 m (pc + 3) ls (.ref (ad 26) :: rest))) : W p l e R s m args below meth c H locs cells slots Q (F0 m pc ls (.ref (ad k) :: rest)) :=
  q_get C0 hw (xN_11 hk) (xE_11 hk _ _) (j := 1) rfl hin (by decide) hlink rfl rfl hdg kk
theorem gt_X1_2 (C0 : CallFix p m c cc nL s args Ts own) (hw : q_H (gX D cI cJ cS ad adK adV) A s σ H locs) (hk : xK k = 11) (hin : ∀ w ∈ wsX10, w ∈ Ts) (hlink : Cond.fieldLink own index "MouldThatComesOff$Leaving" "owned" "[J" ∈ Ts) (hdg : decode cc pc = .ok (.getfield index, 3))
    (kk : W p l e R s m args below meth c H locs cells slots Q (F0 m (pc + 3) ls (.ref (ad 27) :: rest))) : W p l e R s m args below meth c H locs cells slots Q (F0 m pc ls (.ref (ad k) :: rest)) :=
  q_get C0 hw (xN_11 hk) (xE_11 hk _ _) (j := 2) rfl hin (by decide) hlink rfl rfl hdg kk
theorem gt_X2_0 (C0 : CallFix p m c cc nL s args Ts own) (hw : q_H (gX D cI cJ cS ad adK adV) A s σ H locs) (hk : xK k = 1) (hin : ∀ w ∈ wsX20, w ∈ Ts) (hlink : Cond.fieldLink own index "MouldThatComesOff$Mould" "block" "LMouldThatComesOff$Block;" ∈ Ts) (hdg : decode cc pc = .ok (.getfield index, 3))
    (kk : W p l e R s m args below meth c H locs cells slots Q (F0 m (pc + 3) ls (.ref (ad (k + 1)) :: rest))) : W p l e R s m args below meth c H locs cells slots Q (F0 m pc ls (.ref (ad k) :: rest)) :=
  q_get C0 hw (xN_1 hk) (xE_1 hk _ _) (j := 0) rfl hin (by decide) hlink rfl rfl hdg kk
theorem gt_X2_1 (C0 : CallFix p m c cc nL s args Ts own) (hw : q_H (gX D cI cJ cS ad adK adV) A s σ H locs) (hk : xK k = 1) (hin : ∀ w ∈ wsX20, w ∈ Ts) (hlink : Cond.fieldLink own index "MouldThatComesOff$Mould" "figure" "J" ∈ Ts) (hdg : decode cc pc = .ok (.getfield index, 3))
    (kk : W p l e R s m args below meth c H locs cells slots Q (F0 m (pc + 3) ls (.long (σ.2 k 1) :: rest))) : W p l e R s m args below meth c H locs cells slots Q (F0 m pc ls (.ref (ad k) :: rest)) :=
  q_get C0 hw (xN_1 hk) (xE_1 hk _ _) (j := 1) rfl hin (by decide) hlink rfl rfl hdg kk
theorem pt_X2_1 {x : Int64} (C0 : CallFix p m c cc nL s args Ts own) (hw : q_H (gX D cI cJ cS ad adK adV) A s σ H locs) (hk : xK k = 1) (hin : ∀ w ∈ wsX20, w ∈ Ts) (hlink : Cond.fieldLink own index "MouldThatComesOff$Mould" "figure" "J" ∈ Ts) (hdg : decode cc pc = .ok (.putfield index, 3))
    (kk : ∀ (σ1 : q_M) (H1 : Heap) (locs1 : List Loc), σ1 = q_L σ k 1 x → q_H (gX D cI cJ cS ad adK adV) A s σ1 H1 locs1 → W p l e R s m args below meth c H1 locs1 cells slots Q (F0 m (pc + 3) ls rest)) : W p l e R s m args below meth c H locs cells slots Q (F0 m pc ls (.long x :: .ref (ad k) :: rest)) :=
  q_put (σ' := q_L σ k 1 x) (ty := .long) C0 hw (xN_1 hk) (xE_1 hk _ _) (by rw [xE_1 hk]; simp [q_L]) (fun a h => ⟨rfl, q_L_off h⟩) (j := 1) rfl hin tyX2 tyX2_ok nmX2 (by decide) hlink rfl rfl (by decide +kernel) rfl rfl (by simp) hdg (fun H1 locs1 hw => kk _ H1 locs1 rfl hw)
theorem gt_X2_2 (C0 : CallFix p m c cc nL s args Ts own) (hw : q_H (gX D cI cJ cS ad adK adV) A s σ H locs) (hk : xK k = 1) (hin : ∀ w ∈ wsX20, w ∈ Ts) (hlink : Cond.fieldLink own index "MouldThatComesOff$Mould" "pieces" "I" ∈ Ts) (hdg : decode cc pc = .ok (.getfield index, 3))
    (kk : W p l e R s m args below meth c H locs cells slots Q (F0 m (pc + 3) ls (.int (σ.1 k 2) :: rest))) : W p l e R s m args below meth c H locs cells slots Q (F0 m pc ls (.ref (ad k) :: rest)) :=
  q_get C0 hw (xN_1 hk) (xE_1 hk _ _) (j := 2) rfl hin (by decide) hlink rfl rfl hdg kk
theorem pt_X2_2 {x : Int32} (C0 : CallFix p m c cc nL s args Ts own) (hw : q_H (gX D cI cJ cS ad adK adV) A s σ H locs) (hk : xK k = 1) (hin : ∀ w ∈ wsX20, w ∈ Ts) (hlink : Cond.fieldLink own index "MouldThatComesOff$Mould" "pieces" "I" ∈ Ts) (hdg : decode cc pc = .ok (.putfield index, 3))
    (kk : ∀ (σ1 : q_M) (H1 : Heap) (locs1 : List Loc), σ1 = q_I σ k 2 x → q_H (gX D cI cJ cS ad adK adV) A s σ1 H1 locs1 → W p l e R s m args below meth c H1 locs1 cells slots Q (F0 m (pc + 3) ls rest)) : W p l e R s m args below meth c H locs cells slots Q (F0 m pc ls (.int x :: .ref (ad k) :: rest)) :=
  q_put (σ' := q_I σ k 2 x) (ty := .int) C0 hw (xN_1 hk) (xE_1 hk _ _) (by rw [xE_1 hk]; simp [q_I]) (fun a h => ⟨q_I_off h, rfl⟩) (j := 2) rfl hin tyX2 tyX2_ok nmX2 (by decide) hlink rfl rfl (by decide +kernel) rfl rfl (by simp) hdg (fun H1 locs1 hw => kk _ H1 locs1 rfl hw)
theorem gt_X2_3 (C0 : CallFix p m c cc nL s args Ts own) (hw : q_H (gX D cI cJ cS ad adK adV) A s σ H locs) (hk : xK k = 1) (hin : ∀ w ∈ wsX20, w ∈ Ts) (hlink : Cond.fieldLink own index "MouldThatComesOff$Mould" "off" "I" ∈ Ts) (hdg : decode cc pc = .ok (.getfield index, 3))
    (kk : W p l e R s m args below meth c H locs cells slots Q (F0 m (pc + 3) ls (.int (σ.1 k 3) :: rest))) : W p l e R s m args below meth c H locs cells slots Q (F0 m pc ls (.ref (ad k) :: rest)) :=
  q_get C0 hw (xN_1 hk) (xE_1 hk _ _) (j := 3) rfl hin (by decide) hlink rfl rfl hdg kk
theorem pt_X2_3 {x : Int32} (C0 : CallFix p m c cc nL s args Ts own) (hw : q_H (gX D cI cJ cS ad adK adV) A s σ H locs) (hk : xK k = 1) (hin : ∀ w ∈ wsX20, w ∈ Ts) (hlink : Cond.fieldLink own index "MouldThatComesOff$Mould" "off" "I" ∈ Ts) (hdg : decode cc pc = .ok (.putfield index, 3))
    (kk : ∀ (σ1 : q_M) (H1 : Heap) (locs1 : List Loc), σ1 = q_I σ k 3 x → q_H (gX D cI cJ cS ad adK adV) A s σ1 H1 locs1 → W p l e R s m args below meth c H1 locs1 cells slots Q (F0 m (pc + 3) ls rest)) : W p l e R s m args below meth c H locs cells slots Q (F0 m pc ls (.int x :: .ref (ad k) :: rest)) :=
  q_put (σ' := q_I σ k 3 x) (ty := .int) C0 hw (xN_1 hk) (xE_1 hk _ _) (by rw [xE_1 hk]; simp [q_I]) (fun a h => ⟨q_I_off h, rfl⟩) (j := 3) rfl hin tyX2 tyX2_ok nmX2 (by decide) hlink rfl rfl (by decide +kernel) rfl rfl (by simp) hdg (fun H1 locs1 hw => kk _ H1 locs1 rfl hw)
theorem gt_X2_4 (C0 : CallFix p m c cc nL s args Ts own) (hw : q_H (gX D cI cJ cS ad adK adV) A s σ H locs) (hk : xK k = 1) (hin : ∀ w ∈ wsX20, w ∈ Ts) (hlink : Cond.fieldLink own index "MouldThatComesOff$Mould" "heavy" "I" ∈ Ts) (hdg : decode cc pc = .ok (.getfield index, 3))
    (kk : W p l e R s m args below meth c H locs cells slots Q (F0 m (pc + 3) ls (.int (σ.1 k 4) :: rest))) : W p l e R s m args below meth c H locs cells slots Q (F0 m pc ls (.ref (ad k) :: rest)) :=
  q_get C0 hw (xN_1 hk) (xE_1 hk _ _) (j := 4) rfl hin (by decide) hlink rfl rfl hdg kk
theorem pt_X2_4 {x : Int32} (C0 : CallFix p m c cc nL s args Ts own) (hw : q_H (gX D cI cJ cS ad adK adV) A s σ H locs) (hk : xK k = 1) (hin : ∀ w ∈ wsX20, w ∈ Ts) (hlink : Cond.fieldLink own index "MouldThatComesOff$Mould" "heavy" "I" ∈ Ts) (hdg : decode cc pc = .ok (.putfield index, 3))
    (kk : ∀ (σ1 : q_M) (H1 : Heap) (locs1 : List Loc), σ1 = q_I σ k 4 x → q_H (gX D cI cJ cS ad adK adV) A s σ1 H1 locs1 → W p l e R s m args below meth c H1 locs1 cells slots Q (F0 m (pc + 3) ls rest)) : W p l e R s m args below meth c H locs cells slots Q (F0 m pc ls (.int x :: .ref (ad k) :: rest)) :=
  q_put (σ' := q_I σ k 4 x) (ty := .int) C0 hw (xN_1 hk) (xE_1 hk _ _) (by rw [xE_1 hk]; simp [q_I]) (fun a h => ⟨q_I_off h, rfl⟩) (j := 4) rfl hin tyX2 tyX2_ok nmX2 (by decide) hlink rfl rfl (by decide +kernel) rfl rfl (by simp) hdg (fun H1 locs1 hw => kk _ H1 locs1 rfl hw)
theorem gt_X2_5 (C0 : CallFix p m c cc nL s args Ts own) (hw : q_H (gX D cI cJ cS ad adK adV) A s σ H locs) (hk : xK k = 1) (hin : ∀ w ∈ wsX20, w ∈ Ts) (hlink : Cond.fieldLink own index "MouldThatComesOff$Mould" "wear" "I" ∈ Ts) (hdg : decode cc pc = .ok (.getfield index, 3))
    (kk : W p l e R s m args below meth c H locs cells slots Q (F0 m (pc + 3) ls (.int (σ.1 k 5) :: rest))) : W p l e R s m args below meth c H locs cells slots Q (F0 m pc ls (.ref (ad k) :: rest)) :=
  q_get C0 hw (xN_1 hk) (xE_1 hk _ _) (j := 5) rfl hin (by decide) hlink rfl rfl hdg kk
theorem pt_X2_5 {x : Int32} (C0 : CallFix p m c cc nL s args Ts own) (hw : q_H (gX D cI cJ cS ad adK adV) A s σ H locs) (hk : xK k = 1) (hin : ∀ w ∈ wsX20, w ∈ Ts) (hlink : Cond.fieldLink own index "MouldThatComesOff$Mould" "wear" "I" ∈ Ts) (hdg : decode cc pc = .ok (.putfield index, 3))
    (kk : ∀ (σ1 : q_M) (H1 : Heap) (locs1 : List Loc), σ1 = q_I σ k 5 x → q_H (gX D cI cJ cS ad adK adV) A s σ1 H1 locs1 → W p l e R s m args below meth c H1 locs1 cells slots Q (F0 m (pc + 3) ls rest)) : W p l e R s m args below meth c H locs cells slots Q (F0 m pc ls (.int x :: .ref (ad k) :: rest)) :=
  q_put (σ' := q_I σ k 5 x) (ty := .int) C0 hw (xN_1 hk) (xE_1 hk _ _) (by rw [xE_1 hk]; simp [q_I]) (fun a h => ⟨q_I_off h, rfl⟩) (j := 5) rfl hin tyX2 tyX2_ok nmX2 (by decide) hlink rfl rfl (by decide +kernel) rfl rfl (by simp) hdg (fun H1 locs1 hw => kk _ H1 locs1 rfl hw)
theorem gt_X2_6 (C0 : CallFix p m c cc nL s args Ts own) (hw : q_H (gX D cI cJ cS ad adK adV) A s σ H locs) (hk : xK k = 1) (hin : ∀ w ∈ wsX20, w ∈ Ts) (hlink : Cond.fieldLink own index "MouldThatComesOff$Mould" "sets" "[J" ∈ Ts) (hdg : decode cc pc = .ok (.getfield index, 3))
    (kk : W p l e R s m args below meth c H locs cells slots Q (F0 m (pc + 3) ls (.ref (ad (k + 5)) :: rest))) : W p l e R s m args below meth c H locs cells slots Q (F0 m pc ls (.ref (ad k) :: rest)) :=
  q_get C0 hw (xN_1 hk) (xE_1 hk _ _) (j := 6) rfl hin (by decide) hlink rfl rfl hdg kk
theorem gt_X2_7 (C0 : CallFix p m c cc nL s args Ts own) (hw : q_H (gX D cI cJ cS ad adK adV) A s σ H locs) (hk : xK k = 1) (hin : ∀ w ∈ wsX20, w ∈ Ts) (hlink : Cond.fieldLink own index "MouldThatComesOff$Mould" "shows" "[J" ∈ Ts) (hdg : decode cc pc = .ok (.getfield index, 3))
    (kk : W p l e R s m args below meth c H locs cells slots Q (F0 m (pc + 3) ls (.ref (ad (k + 6)) :: rest))) : W p l e R s m args below meth c H locs cells slots Q (F0 m pc ls (.ref (ad k) :: rest)) :=
  q_get C0 hw (xN_1 hk) (xE_1 hk _ _) (j := 7) rfl hin (by decide) hlink rfl rfl hdg kk
theorem gt_X3_0 (C0 : CallFix p m c cc nL s args Ts own) (hw : q_H (gX D cI cJ cS ad adK adV) A s σ H locs) (hk : xK k = 18) (hin : ∀ w ∈ wsX30, w ∈ Ts) (hlink : Cond.fieldLink own index "MouldThatComesOff$Move" "kind" "I" ∈ Ts) (hdg : decode cc pc = .ok (.getfield index, 3))
    (kk : W p l e R s m args below meth c H locs cells slots Q (F0 m (pc + 3) ls (.int (σ.1 k 0) :: rest))) : W p l e R s m args below meth c H locs cells slots Q (F0 m pc ls (.ref (ad k) :: rest)) :=
  q_get C0 hw (xN_18 hk) (xE_18 hk _ _) (j := 0) rfl hin (by decide) hlink rfl rfl hdg kk
theorem pt_X3_0 {x : Int32} (C0 : CallFix p m c cc nL s args Ts own) (hw : q_H (gX D cI cJ cS ad adK adV) A s σ H locs) (hk : xK k = 18) (hin : ∀ w ∈ wsX30, w ∈ Ts) (hlink : Cond.fieldLink own index "MouldThatComesOff$Move" "kind" "I" ∈ Ts) (hdg : decode cc pc = .ok (.putfield index, 3))
    (kk : ∀ (σ1 : q_M) (H1 : Heap) (locs1 : List Loc), σ1 = q_I σ k 0 x → q_H (gX D cI cJ cS ad adK adV) A s σ1 H1 locs1 → W p l e R s m args below meth c H1 locs1 cells slots Q (F0 m (pc + 3) ls rest)) : W p l e R s m args below meth c H locs cells slots Q (F0 m pc ls (.int x :: .ref (ad k) :: rest)) :=
  q_put (σ' := q_I σ k 0 x) (ty := .int) C0 hw (xN_18 hk) (xE_18 hk _ _) (by rw [xE_18 hk]; simp [q_I]) (fun a h => ⟨q_I_off h, rfl⟩) (j := 0) rfl hin tyX3 tyX3_ok nmX3 (by decide) hlink rfl rfl (by decide +kernel) rfl rfl (by simp) hdg (fun H1 locs1 hw => kk _ H1 locs1 rfl hw)
theorem gt_X3_1 (C0 : CallFix p m c cc nL s args Ts own) (hw : q_H (gX D cI cJ cS ad adK adV) A s σ H locs) (hk : xK k = 18) (hin : ∀ w ∈ wsX30, w ∈ Ts) (hlink : Cond.fieldLink own index "MouldThatComesOff$Move" "a" "I" ∈ Ts) (hdg : decode cc pc = .ok (.getfield index, 3))
    (kk : W p l e R s m args below meth c H locs cells slots Q (F0 m (pc + 3) ls (.int (σ.1 k 1) :: rest))) : W p l e R s m args below meth c H locs cells slots Q (F0 m pc ls (.ref (ad k) :: rest)) :=
  q_get C0 hw (xN_18 hk) (xE_18 hk _ _) (j := 1) rfl hin (by decide) hlink rfl rfl hdg kk
theorem pt_X3_1 {x : Int32} (C0 : CallFix p m c cc nL s args Ts own) (hw : q_H (gX D cI cJ cS ad adK adV) A s σ H locs) (hk : xK k = 18) (hin : ∀ w ∈ wsX30, w ∈ Ts) (hlink : Cond.fieldLink own index "MouldThatComesOff$Move" "a" "I" ∈ Ts) (hdg : decode cc pc = .ok (.putfield index, 3))
    (kk : ∀ (σ1 : q_M) (H1 : Heap) (locs1 : List Loc), σ1 = q_I σ k 1 x → q_H (gX D cI cJ cS ad adK adV) A s σ1 H1 locs1 → W p l e R s m args below meth c H1 locs1 cells slots Q (F0 m (pc + 3) ls rest)) : W p l e R s m args below meth c H locs cells slots Q (F0 m pc ls (.int x :: .ref (ad k) :: rest)) :=
  q_put (σ' := q_I σ k 1 x) (ty := .int) C0 hw (xN_18 hk) (xE_18 hk _ _) (by rw [xE_18 hk]; simp [q_I]) (fun a h => ⟨q_I_off h, rfl⟩) (j := 1) rfl hin tyX3 tyX3_ok nmX3 (by decide) hlink rfl rfl (by decide +kernel) rfl rfl (by simp) hdg (fun H1 locs1 hw => kk _ H1 locs1 rfl hw)
theorem gt_X3_2 (C0 : CallFix p m c cc nL s args Ts own) (hw : q_H (gX D cI cJ cS ad adK adV) A s σ H locs) (hk : xK k = 18) (hin : ∀ w ∈ wsX30, w ∈ Ts) (hlink : Cond.fieldLink own index "MouldThatComesOff$Move" "b" "I" ∈ Ts) (hdg : decode cc pc = .ok (.getfield index, 3))
    (kk : W p l e R s m args below meth c H locs cells slots Q (F0 m (pc + 3) ls (.int (σ.1 k 2) :: rest))) : W p l e R s m args below meth c H locs cells slots Q (F0 m pc ls (.ref (ad k) :: rest)) :=
  q_get C0 hw (xN_18 hk) (xE_18 hk _ _) (j := 2) rfl hin (by decide) hlink rfl rfl hdg kk
theorem pt_X3_2 {x : Int32} (C0 : CallFix p m c cc nL s args Ts own) (hw : q_H (gX D cI cJ cS ad adK adV) A s σ H locs) (hk : xK k = 18) (hin : ∀ w ∈ wsX30, w ∈ Ts) (hlink : Cond.fieldLink own index "MouldThatComesOff$Move" "b" "I" ∈ Ts) (hdg : decode cc pc = .ok (.putfield index, 3))
    (kk : ∀ (σ1 : q_M) (H1 : Heap) (locs1 : List Loc), σ1 = q_I σ k 2 x → q_H (gX D cI cJ cS ad adK adV) A s σ1 H1 locs1 → W p l e R s m args below meth c H1 locs1 cells slots Q (F0 m (pc + 3) ls rest)) : W p l e R s m args below meth c H locs cells slots Q (F0 m pc ls (.int x :: .ref (ad k) :: rest)) :=
  q_put (σ' := q_I σ k 2 x) (ty := .int) C0 hw (xN_18 hk) (xE_18 hk _ _) (by rw [xE_18 hk]; simp [q_I]) (fun a h => ⟨q_I_off h, rfl⟩) (j := 2) rfl hin tyX3 tyX3_ok nmX3 (by decide) hlink rfl rfl (by decide +kernel) rfl rfl (by simp) hdg (fun H1 locs1 hw => kk _ H1 locs1 rfl hw)
theorem gt_X5_0 (C0 : CallFix p m c cc nL s args Ts own) (hw : q_H (gX D cI cJ cS ad adK adV) A s σ H locs) (hk : xK k = 16) (hin : ∀ w ∈ wsX50, w ∈ Ts) (hlink : Cond.fieldLink own index "MouldThatComesOff$Row" "sort" "I" ∈ Ts) (hdg : decode cc pc = .ok (.getfield index, 3))
    (kk : W p l e R s m args below meth c H locs cells slots Q (F0 m (pc + 3) ls (.int (σ.1 k 0) :: rest))) : W p l e R s m args below meth c H locs cells slots Q (F0 m pc ls (.ref (ad k) :: rest)) :=
  q_get C0 hw (xN_16 hk) (xE_16 hk _ _) (j := 0) rfl hin (by decide) hlink rfl rfl hdg kk
theorem pt_X5_0 {x : Int32} (C0 : CallFix p m c cc nL s args Ts own) (hw : q_H (gX D cI cJ cS ad adK adV) A s σ H locs) (hk : xK k = 16) (hin : ∀ w ∈ wsX50, w ∈ Ts) (hlink : Cond.fieldLink own index "MouldThatComesOff$Row" "sort" "I" ∈ Ts) (hdg : decode cc pc = .ok (.putfield index, 3))
    (kk : ∀ (σ1 : q_M) (H1 : Heap) (locs1 : List Loc), σ1 = q_I σ k 0 x → q_H (gX D cI cJ cS ad adK adV) A s σ1 H1 locs1 → W p l e R s m args below meth c H1 locs1 cells slots Q (F0 m (pc + 3) ls rest)) : W p l e R s m args below meth c H locs cells slots Q (F0 m pc ls (.int x :: .ref (ad k) :: rest)) :=
  q_put (σ' := q_I σ k 0 x) (ty := .int) C0 hw (xN_16 hk) (xE_16 hk _ _) (by rw [xE_16 hk]; simp [q_I]) (fun a h => ⟨q_I_off h, rfl⟩) (j := 0) rfl hin tyX5 tyX5_ok nmX5 (by decide) hlink rfl rfl (by decide +kernel) rfl rfl (by simp) hdg (fun H1 locs1 hw => kk _ H1 locs1 rfl hw)
theorem gt_X5_1 (C0 : CallFix p m c cc nL s args Ts own) (hw : q_H (gX D cI cJ cS ad adK adV) A s σ H locs) (hk : xK k = 16) (hin : ∀ w ∈ wsX50, w ∈ Ts) (hlink : Cond.fieldLink own index "MouldThatComesOff$Row" "length" "I" ∈ Ts) (hdg : decode cc pc = .ok (.getfield index, 3))
    (kk : W p l e R s m args below meth c H locs cells slots Q (F0 m (pc + 3) ls (.int (σ.1 k 1) :: rest))) : W p l e R s m args below meth c H locs cells slots Q (F0 m pc ls (.ref (ad k) :: rest)) :=
  q_get C0 hw (xN_16 hk) (xE_16 hk _ _) (j := 1) rfl hin (by decide) hlink rfl rfl hdg kk
theorem pt_X5_1 {x : Int32} (C0 : CallFix p m c cc nL s args Ts own) (hw : q_H (gX D cI cJ cS ad adK adV) A s σ H locs) (hk : xK k = 16) (hin : ∀ w ∈ wsX50, w ∈ Ts) (hlink : Cond.fieldLink own index "MouldThatComesOff$Row" "length" "I" ∈ Ts) (hdg : decode cc pc = .ok (.putfield index, 3))
    (kk : ∀ (σ1 : q_M) (H1 : Heap) (locs1 : List Loc), σ1 = q_I σ k 1 x → q_H (gX D cI cJ cS ad adK adV) A s σ1 H1 locs1 → W p l e R s m args below meth c H1 locs1 cells slots Q (F0 m (pc + 3) ls rest)) : W p l e R s m args below meth c H locs cells slots Q (F0 m pc ls (.int x :: .ref (ad k) :: rest)) :=
  q_put (σ' := q_I σ k 1 x) (ty := .int) C0 hw (xN_16 hk) (xE_16 hk _ _) (by rw [xE_16 hk]; simp [q_I]) (fun a h => ⟨q_I_off h, rfl⟩) (j := 1) rfl hin tyX5 tyX5_ok nmX5 (by decide) hlink rfl rfl (by decide +kernel) rfl rfl (by simp) hdg (fun H1 locs1 hw => kk _ H1 locs1 rfl hw)
theorem gt_X5_2 (C0 : CallFix p m c cc nL s args Ts own) (hw : q_H (gX D cI cJ cS ad adK adV) A s σ H locs) (hk : xK k = 16) (hin : ∀ w ∈ wsX50, w ∈ Ts) (hlink : Cond.fieldLink own index "MouldThatComesOff$Row" "elements" "[J" ∈ Ts) (hdg : decode cc pc = .ok (.getfield index, 3))
    (kk : W p l e R s m args below meth c H locs cells slots Q (F0 m (pc + 3) ls (.ref (ad (k + 1)) :: rest))) : W p l e R s m args below meth c H locs cells slots Q (F0 m pc ls (.ref (ad k) :: rest)) :=
  q_get C0 hw (xN_16 hk) (xE_16 hk _ _) (j := 2) rfl hin (by decide) hlink rfl rfl hdg kk
theorem gt_X6_0 (C0 : CallFix p m c cc nL s args Ts own) (hw : q_H (gX D cI cJ cS ad adK adV) A s σ H locs) (hk : xK k = 15) (hin : ∀ w ∈ wsX60, w ∈ Ts) (hlink : Cond.fieldLink own index "MouldThatComesOff$Shelf" "held" "I" ∈ Ts) (hdg : decode cc pc = .ok (.getfield index, 3))
    (kk : W p l e R s m args below meth c H locs cells slots Q (F0 m (pc + 3) ls (.int (σ.1 k 0) :: rest))) : W p l e R s m args below meth c H locs cells slots Q (F0 m pc ls (.ref (ad k) :: rest)) :=
  q_get C0 hw (xN_15 hk) (xE_15 hk _ _) (j := 0) rfl hin (by decide) hlink rfl rfl hdg kk
theorem pt_X6_0 {x : Int32} (C0 : CallFix p m c cc nL s args Ts own) (hw : q_H (gX D cI cJ cS ad adK adV) A s σ H locs) (hk : xK k = 15) (hin : ∀ w ∈ wsX60, w ∈ Ts) (hlink : Cond.fieldLink own index "MouldThatComesOff$Shelf" "held" "I" ∈ Ts) (hdg : decode cc pc = .ok (.putfield index, 3))
    (kk : ∀ (σ1 : q_M) (H1 : Heap) (locs1 : List Loc), σ1 = q_I σ k 0 x → q_H (gX D cI cJ cS ad adK adV) A s σ1 H1 locs1 → W p l e R s m args below meth c H1 locs1 cells slots Q (F0 m (pc + 3) ls rest)) : W p l e R s m args below meth c H locs cells slots Q (F0 m pc ls (.int x :: .ref (ad k) :: rest)) :=
  q_put (σ' := q_I σ k 0 x) (ty := .int) C0 hw (xN_15 hk) (xE_15 hk _ _) (by rw [xE_15 hk]; simp [q_I]) (fun a h => ⟨q_I_off h, rfl⟩) (j := 0) rfl hin tyX6 tyX6_ok nmX6 (by decide) hlink rfl rfl (by decide +kernel) rfl rfl (by simp) hdg (fun H1 locs1 hw => kk _ H1 locs1 rfl hw)
theorem gt_X6_1 (C0 : CallFix p m c cc nL s args Ts own) (hw : q_H (gX D cI cJ cS ad adK adV) A s σ H locs) (hk : xK k = 15) (hin : ∀ w ∈ wsX60, w ∈ Ts) (hlink : Cond.fieldLink own index "MouldThatComesOff$Shelf" "row" "LMouldThatComesOff$Row;" ∈ Ts) (hdg : decode cc pc = .ok (.getfield index, 3))
    (kk : W p l e R s m args below meth c H locs cells slots Q (F0 m (pc + 3) ls (.ref (ad (k + 1)) :: rest))) : W p l e R s m args below meth c H locs cells slots Q (F0 m pc ls (.ref (ad k) :: rest)) :=
  q_get C0 hw (xN_15 hk) (xE_15 hk _ _) (j := 1) rfl hin (by decide) hlink rfl rfl hdg kk
theorem gt_X6_2 (C0 : CallFix p m c cc nL s args Ts own) (hw : q_H (gX D cI cJ cS ad adK adV) A s σ H locs) (hk : xK k = 15) (hin : ∀ w ∈ wsX60, w ∈ Ts) (hlink : Cond.fieldLink own index "MouldThatComesOff$Shelf" "move" "LMouldThatComesOff$Move;" ∈ Ts) (hdg : decode cc pc = .ok (.getfield index, 3))
    (kk : W p l e R s m args below meth c H locs cells slots Q (F0 m (pc + 3) ls (.ref (ad (k + 3)) :: rest))) : W p l e R s m args below meth c H locs cells slots Q (F0 m pc ls (.ref (ad k) :: rest)) :=
  q_get C0 hw (xN_15 hk) (xE_15 hk _ _) (j := 2) rfl hin (by decide) hlink rfl rfl hdg kk
theorem gt_X7_0 (C0 : CallFix p m c cc nL s args Ts own) (hw : q_H (gX D cI cJ cS ad adK adV) A s σ H locs) (hk : xK k = 9) (hin : ∀ w ∈ wsX70, w ∈ Ts) (hlink : Cond.fieldLink own index "MouldThatComesOff$Tape" "size" "I" ∈ Ts) (hdg : decode cc pc = .ok (.getfield index, 3))
    (kk : W p l e R s m args below meth c H locs cells slots Q (F0 m (pc + 3) ls (.int (σ.1 k 0) :: rest))) : W p l e R s m args below meth c H locs cells slots Q (F0 m pc ls (.ref (ad k) :: rest)) :=
  q_get C0 hw (xN_9 hk) (xE_9 hk _ _) (j := 0) rfl hin (by decide) hlink rfl rfl hdg kk
theorem pt_X7_0 {x : Int32} (C0 : CallFix p m c cc nL s args Ts own) (hw : q_H (gX D cI cJ cS ad adK adV) A s σ H locs) (hk : xK k = 9) (hin : ∀ w ∈ wsX70, w ∈ Ts) (hlink : Cond.fieldLink own index "MouldThatComesOff$Tape" "size" "I" ∈ Ts) (hdg : decode cc pc = .ok (.putfield index, 3))
    (kk : ∀ (σ1 : q_M) (H1 : Heap) (locs1 : List Loc), σ1 = q_I σ k 0 x → q_H (gX D cI cJ cS ad adK adV) A s σ1 H1 locs1 → W p l e R s m args below meth c H1 locs1 cells slots Q (F0 m (pc + 3) ls rest)) : W p l e R s m args below meth c H locs cells slots Q (F0 m pc ls (.int x :: .ref (ad k) :: rest)) :=
  q_put (σ' := q_I σ k 0 x) (ty := .int) C0 hw (xN_9 hk) (xE_9 hk _ _) (by rw [xE_9 hk]; simp [q_I]) (fun a h => ⟨q_I_off h, rfl⟩) (j := 0) rfl hin tyX7 tyX7_ok nmX7 (by decide) hlink rfl rfl (by decide +kernel) rfl rfl (by simp) hdg (fun H1 locs1 hw => kk _ H1 locs1 rfl hw)
theorem gt_X7_1 (C0 : CallFix p m c cc nL s args Ts own) (hw : q_H (gX D cI cJ cS ad adK adV) A s σ H locs) (hk : xK k = 9) (hin : ∀ w ∈ wsX70, w ∈ Ts) (hlink : Cond.fieldLink own index "MouldThatComesOff$Tape" "start" "I" ∈ Ts) (hdg : decode cc pc = .ok (.getfield index, 3))
    (kk : W p l e R s m args below meth c H locs cells slots Q (F0 m (pc + 3) ls (.int (σ.1 k 1) :: rest))) : W p l e R s m args below meth c H locs cells slots Q (F0 m pc ls (.ref (ad k) :: rest)) :=
  q_get C0 hw (xN_9 hk) (xE_9 hk _ _) (j := 1) rfl hin (by decide) hlink rfl rfl hdg kk
theorem pt_X7_1 {x : Int32} (C0 : CallFix p m c cc nL s args Ts own) (hw : q_H (gX D cI cJ cS ad adK adV) A s σ H locs) (hk : xK k = 9) (hin : ∀ w ∈ wsX70, w ∈ Ts) (hlink : Cond.fieldLink own index "MouldThatComesOff$Tape" "start" "I" ∈ Ts) (hdg : decode cc pc = .ok (.putfield index, 3))
    (kk : ∀ (σ1 : q_M) (H1 : Heap) (locs1 : List Loc), σ1 = q_I σ k 1 x → q_H (gX D cI cJ cS ad adK adV) A s σ1 H1 locs1 → W p l e R s m args below meth c H1 locs1 cells slots Q (F0 m (pc + 3) ls rest)) : W p l e R s m args below meth c H locs cells slots Q (F0 m pc ls (.int x :: .ref (ad k) :: rest)) :=
  q_put (σ' := q_I σ k 1 x) (ty := .int) C0 hw (xN_9 hk) (xE_9 hk _ _) (by rw [xE_9 hk]; simp [q_I]) (fun a h => ⟨q_I_off h, rfl⟩) (j := 1) rfl hin tyX7 tyX7_ok nmX7 (by decide) hlink rfl rfl (by decide +kernel) rfl rfl (by simp) hdg (fun H1 locs1 hw => kk _ H1 locs1 rfl hw)
theorem gt_X7_2 (C0 : CallFix p m c cc nL s args Ts own) (hw : q_H (gX D cI cJ cS ad adK adV) A s σ H locs) (hk : xK k = 9) (hin : ∀ w ∈ wsX70, w ∈ Ts) (hlink : Cond.fieldLink own index "MouldThatComesOff$Tape" "sort" "I" ∈ Ts) (hdg : decode cc pc = .ok (.getfield index, 3))
    (kk : W p l e R s m args below meth c H locs cells slots Q (F0 m (pc + 3) ls (.int (σ.1 k 2) :: rest))) : W p l e R s m args below meth c H locs cells slots Q (F0 m pc ls (.ref (ad k) :: rest)) :=
  q_get C0 hw (xN_9 hk) (xE_9 hk _ _) (j := 2) rfl hin (by decide) hlink rfl rfl hdg kk
theorem pt_X7_2 {x : Int32} (C0 : CallFix p m c cc nL s args Ts own) (hw : q_H (gX D cI cJ cS ad adK adV) A s σ H locs) (hk : xK k = 9) (hin : ∀ w ∈ wsX70, w ∈ Ts) (hlink : Cond.fieldLink own index "MouldThatComesOff$Tape" "sort" "I" ∈ Ts) (hdg : decode cc pc = .ok (.putfield index, 3))
    (kk : ∀ (σ1 : q_M) (H1 : Heap) (locs1 : List Loc), σ1 = q_I σ k 2 x → q_H (gX D cI cJ cS ad adK adV) A s σ1 H1 locs1 → W p l e R s m args below meth c H1 locs1 cells slots Q (F0 m (pc + 3) ls rest)) : W p l e R s m args below meth c H locs cells slots Q (F0 m pc ls (.int x :: .ref (ad k) :: rest)) :=
  q_put (σ' := q_I σ k 2 x) (ty := .int) C0 hw (xN_9 hk) (xE_9 hk _ _) (by rw [xE_9 hk]; simp [q_I]) (fun a h => ⟨q_I_off h, rfl⟩) (j := 2) rfl hin tyX7 tyX7_ok nmX7 (by decide) hlink rfl rfl (by decide +kernel) rfl rfl (by simp) hdg (fun H1 locs1 hw => kk _ H1 locs1 rfl hw)
theorem gt_X7_3 (C0 : CallFix p m c cc nL s args Ts own) (hw : q_H (gX D cI cJ cS ad adK adV) A s σ H locs) (hk : xK k = 9) (hin : ∀ w ∈ wsX70, w ∈ Ts) (hlink : Cond.fieldLink own index "MouldThatComesOff$Tape" "end" "I" ∈ Ts) (hdg : decode cc pc = .ok (.getfield index, 3))
    (kk : W p l e R s m args below meth c H locs cells slots Q (F0 m (pc + 3) ls (.int (σ.1 k 3) :: rest))) : W p l e R s m args below meth c H locs cells slots Q (F0 m pc ls (.ref (ad k) :: rest)) :=
  q_get C0 hw (xN_9 hk) (xE_9 hk _ _) (j := 3) rfl hin (by decide) hlink rfl rfl hdg kk
theorem pt_X7_3 {x : Int32} (C0 : CallFix p m c cc nL s args Ts own) (hw : q_H (gX D cI cJ cS ad adK adV) A s σ H locs) (hk : xK k = 9) (hin : ∀ w ∈ wsX70, w ∈ Ts) (hlink : Cond.fieldLink own index "MouldThatComesOff$Tape" "end" "I" ∈ Ts) (hdg : decode cc pc = .ok (.putfield index, 3))
    (kk : ∀ (σ1 : q_M) (H1 : Heap) (locs1 : List Loc), σ1 = q_I σ k 3 x → q_H (gX D cI cJ cS ad adK adV) A s σ1 H1 locs1 → W p l e R s m args below meth c H1 locs1 cells slots Q (F0 m (pc + 3) ls rest)) : W p l e R s m args below meth c H locs cells slots Q (F0 m pc ls (.int x :: .ref (ad k) :: rest)) :=
  q_put (σ' := q_I σ k 3 x) (ty := .int) C0 hw (xN_9 hk) (xE_9 hk _ _) (by rw [xE_9 hk]; simp [q_I]) (fun a h => ⟨q_I_off h, rfl⟩) (j := 3) rfl hin tyX7 tyX7_ok nmX7 (by decide) hlink rfl rfl (by decide +kernel) rfl rfl (by simp) hdg (fun H1 locs1 hw => kk _ H1 locs1 rfl hw)
theorem gt_X7_4 (C0 : CallFix p m c cc nL s args Ts own) (hw : q_H (gX D cI cJ cS ad adK adV) A s σ H locs) (hk : xK k = 9) (hin : ∀ w ∈ wsX70, w ∈ Ts) (hlink : Cond.fieldLink own index "MouldThatComesOff$Tape" "bytes" "[I" ∈ Ts) (hdg : decode cc pc = .ok (.getfield index, 3))
    (kk : W p l e R s m args below meth c H locs cells slots Q (F0 m (pc + 3) ls (.ref (ad 24) :: rest))) : W p l e R s m args below meth c H locs cells slots Q (F0 m pc ls (.ref (ad k) :: rest)) :=
  q_get C0 hw (xN_9 hk) (xE_9 hk _ _) (j := 4) rfl hin (by decide) hlink rfl rfl hdg kk
theorem gt_X8_0 (C0 : CallFix p m c cc nL s args Ts own) (hw : q_H (gX D cI cJ cS ad adK adV) A s σ H locs) (hk : xK k = 0) (hin : ∀ w ∈ wsX80, w ∈ Ts) (hlink : Cond.fieldLink own index "MouldThatComesOff" "now" "LMouldThatComesOff$Mould;" ∈ Ts) (hdg : decode cc pc = .ok (.getfield index, 3))
    (kk : W p l e R s m args below meth c H locs cells slots Q (F0 m (pc + 3) ls (.ref (ad 1) :: rest))) : W p l e R s m args below meth c H locs cells slots Q (F0 m pc ls (.ref (ad k) :: rest)) :=
  q_get C0 hw (xN_0 hk) (xE_0 hk _ _) (j := 0) rfl hin (by decide) hlink rfl rfl hdg kk
theorem gt_X8_1 (C0 : CallFix p m c cc nL s args Ts own) (hw : q_H (gX D cI cJ cS ad adK adV) A s σ H locs) (hk : xK k = 0) (hin : ∀ w ∈ wsX80, w ∈ Ts) (hlink : Cond.fieldLink own index "MouldThatComesOff" "kept" "LMouldThatComesOff$Mould;" ∈ Ts) (hdg : decode cc pc = .ok (.getfield index, 3))
    (kk : W p l e R s m args below meth c H locs cells slots Q (F0 m (pc + 3) ls (.ref (ad 8) :: rest))) : W p l e R s m args below meth c H locs cells slots Q (F0 m pc ls (.ref (ad k) :: rest)) :=
  q_get C0 hw (xN_0 hk) (xE_0 hk _ _) (j := 1) rfl hin (by decide) hlink rfl rfl hdg kk
theorem gt_X8_2 (C0 : CallFix p m c cc nL s args Ts own) (hw : q_H (gX D cI cJ cS ad adK adV) A s σ H locs) (hk : xK k = 0) (hin : ∀ w ∈ wsX80, w ∈ Ts) (hlink : Cond.fieldLink own index "MouldThatComesOff" "draft" "LMouldThatComesOff$Mould;" ∈ Ts) (hdg : decode cc pc = .ok (.getfield index, 3))
    (kk : W p l e R s m args below meth c H locs cells slots Q (F0 m (pc + 3) ls (.ref (ad 15) :: rest))) : W p l e R s m args below meth c H locs cells slots Q (F0 m pc ls (.ref (ad k) :: rest)) :=
  q_get C0 hw (xN_0 hk) (xE_0 hk _ _) (j := 2) rfl hin (by decide) hlink rfl rfl hdg kk
theorem gt_X8_3 (C0 : CallFix p m c cc nL s args Ts own) (hw : q_H (gX D cI cJ cS ad adK adV) A s σ H locs) (hk : xK k = 0) (hin : ∀ w ∈ wsX80, w ∈ Ts) (hlink : Cond.fieldLink own index "MouldThatComesOff" "hasKept" "Z" ∈ Ts) (hdg : decode cc pc = .ok (.getfield index, 3))
    (kk : W p l e R s m args below meth c H locs cells slots Q (F0 m (pc + 3) ls (.int (σ.1 k 3) :: rest))) : W p l e R s m args below meth c H locs cells slots Q (F0 m pc ls (.ref (ad k) :: rest)) :=
  q_get C0 hw (xN_0 hk) (xE_0 hk _ _) (j := 3) rfl hin (by decide) hlink rfl rfl hdg kk
theorem pt_X8_3 {x : Int32} (C0 : CallFix p m c cc nL s args Ts own) (hw : q_H (gX D cI cJ cS ad adK adV) A s σ H locs) (hk : xK k = 0) (hin : ∀ w ∈ wsX80, w ∈ Ts) (hlink : Cond.fieldLink own index "MouldThatComesOff" "hasKept" "Z" ∈ Ts) (hz : narrow .boolean (.int x) = .int x) (hf : fits .boolean (.int x) = true) (hdg : decode cc pc = .ok (.putfield index, 3))
    (kk : ∀ (σ1 : q_M) (H1 : Heap) (locs1 : List Loc), σ1 = q_I σ k 3 x → q_H (gX D cI cJ cS ad adK adV) A s σ1 H1 locs1 → W p l e R s m args below meth c H1 locs1 cells slots Q (F0 m (pc + 3) ls rest)) : W p l e R s m args below meth c H locs cells slots Q (F0 m pc ls (.int x :: .ref (ad k) :: rest)) :=
  q_put (σ' := q_I σ k 3 x) (ty := .boolean) C0 hw (xN_0 hk) (xE_0 hk _ _) (by rw [xE_0 hk]; simp [q_I]) (fun a h => ⟨q_I_off h, rfl⟩) (j := 3) rfl hin tyX8 tyX8_ok nmX8 (by decide) hlink rfl rfl (by decide +kernel) hz hf (by simp) hdg (fun H1 locs1 hw => kk _ H1 locs1 rfl hw)
theorem gt_X8_4 (C0 : CallFix p m c cc nL s args Ts own) (hw : q_H (gX D cI cJ cS ad adK adV) A s σ H locs) (hk : xK k = 0) (hin : ∀ w ∈ wsX80, w ∈ Ts) (hlink : Cond.fieldLink own index "MouldThatComesOff" "shelves" "[LMouldThatComesOff$Shelf;" ∈ Ts) (hdg : decode cc pc = .ok (.getfield index, 3))
    (kk : W p l e R s m args below meth c H locs cells slots Q (F0 m (pc + 3) ls (.ref (ad 22) :: rest))) : W p l e R s m args below meth c H locs cells slots Q (F0 m pc ls (.ref (ad k) :: rest)) :=
  q_get C0 hw (xN_0 hk) (xE_0 hk _ _) (j := 4) rfl hin (by decide) hlink rfl rfl hdg kk
theorem gt_X8_5 (C0 : CallFix p m c cc nL s args Ts own) (hw : q_H (gX D cI cJ cS ad adK adV) A s σ H locs) (hk : xK k = 0) (hin : ∀ w ∈ wsX80, w ∈ Ts) (hlink : Cond.fieldLink own index "MouldThatComesOff" "tape" "LMouldThatComesOff$Tape;" ∈ Ts) (hdg : decode cc pc = .ok (.getfield index, 3))
    (kk : W p l e R s m args below meth c H locs cells slots Q (F0 m (pc + 3) ls (.ref (ad 23) :: rest))) : W p l e R s m args below meth c H locs cells slots Q (F0 m pc ls (.ref (ad k) :: rest)) :=
  q_get C0 hw (xN_0 hk) (xE_0 hk _ _) (j := 5) rfl hin (by decide) hlink rfl rfl hdg kk
theorem gt_X8_6 (C0 : CallFix p m c cc nL s args Ts own) (hw : q_H (gX D cI cJ cS ad adK adV) A s σ H locs) (hk : xK k = 0) (hin : ∀ w ∈ wsX80, w ∈ Ts) (hlink : Cond.fieldLink own index "MouldThatComesOff" "leaving" "LMouldThatComesOff$Leaving;" ∈ Ts) (hdg : decode cc pc = .ok (.getfield index, 3))
    (kk : W p l e R s m args below meth c H locs cells slots Q (F0 m (pc + 3) ls (.ref (ad 25) :: rest))) : W p l e R s m args below meth c H locs cells slots Q (F0 m pc ls (.ref (ad k) :: rest)) :=
  q_get C0 hw (xN_0 hk) (xE_0 hk _ _) (j := 6) rfl hin (by decide) hlink rfl rfl hdg kk
theorem gt_X8_7 (C0 : CallFix p m c cc nL s args Ts own) (hw : q_H (gX D cI cJ cS ad adK adV) A s σ H locs) (hk : xK k = 0) (hin : ∀ w ∈ wsX80, w ∈ Ts) (hlink : Cond.fieldLink own index "MouldThatComesOff" "refused" "[I" ∈ Ts) (hdg : decode cc pc = .ok (.getfield index, 3))
    (kk : W p l e R s m args below meth c H locs cells slots Q (F0 m (pc + 3) ls (.ref (ad 28) :: rest))) : W p l e R s m args below meth c H locs cells slots Q (F0 m pc ls (.ref (ad k) :: rest)) :=
  q_get C0 hw (xN_0 hk) (xE_0 hk _ _) (j := 7) rfl hin (by decide) hlink rfl rfl hdg kk
theorem gt_X8_8 (C0 : CallFix p m c cc nL s args Ts own) (hw : q_H (gX D cI cJ cS ad adK adV) A s σ H locs) (hk : xK k = 0) (hin : ∀ w ∈ wsX80, w ∈ Ts) (hlink : Cond.fieldLink own index "MouldThatComesOff" "orderPieces" "[I" ∈ Ts) (hdg : decode cc pc = .ok (.getfield index, 3))
    (kk : W p l e R s m args below meth c H locs cells slots Q (F0 m (pc + 3) ls (.ref (ad 29) :: rest))) : W p l e R s m args below meth c H locs cells slots Q (F0 m pc ls (.ref (ad k) :: rest)) :=
  q_get C0 hw (xN_0 hk) (xE_0 hk _ _) (j := 8) rfl hin (by decide) hlink rfl rfl hdg kk
theorem gt_X8_9 (C0 : CallFix p m c cc nL s args Ts own) (hw : q_H (gX D cI cJ cS ad adK adV) A s σ H locs) (hk : xK k = 0) (hin : ∀ w ∈ wsX80, w ∈ Ts) (hlink : Cond.fieldLink own index "MouldThatComesOff" "orderShelves" "[I" ∈ Ts) (hdg : decode cc pc = .ok (.getfield index, 3))
    (kk : W p l e R s m args below meth c H locs cells slots Q (F0 m (pc + 3) ls (.ref (ad 30) :: rest))) : W p l e R s m args below meth c H locs cells slots Q (F0 m pc ls (.ref (ad k) :: rest)) :=
  q_get C0 hw (xN_0 hk) (xE_0 hk _ _) (j := 9) rfl hin (by decide) hlink rfl rfl hdg kk
theorem gt_X8_10 (C0 : CallFix p m c cc nL s args Ts own) (hw : q_H (gX D cI cJ cS ad adK adV) A s σ H locs) (hk : xK k = 0) (hin : ∀ w ∈ wsX80, w ∈ Ts) (hlink : Cond.fieldLink own index "MouldThatComesOff" "orderCount" "I" ∈ Ts) (hdg : decode cc pc = .ok (.getfield index, 3))
    (kk : W p l e R s m args below meth c H locs cells slots Q (F0 m (pc + 3) ls (.int (σ.1 k 10) :: rest))) : W p l e R s m args below meth c H locs cells slots Q (F0 m pc ls (.ref (ad k) :: rest)) :=
  q_get C0 hw (xN_0 hk) (xE_0 hk _ _) (j := 10) rfl hin (by decide) hlink rfl rfl hdg kk
theorem pt_X8_10 {x : Int32} (C0 : CallFix p m c cc nL s args Ts own) (hw : q_H (gX D cI cJ cS ad adK adV) A s σ H locs) (hk : xK k = 0) (hin : ∀ w ∈ wsX80, w ∈ Ts) (hlink : Cond.fieldLink own index "MouldThatComesOff" "orderCount" "I" ∈ Ts) (hdg : decode cc pc = .ok (.putfield index, 3))
    (kk : ∀ (σ1 : q_M) (H1 : Heap) (locs1 : List Loc), σ1 = q_I σ k 10 x → q_H (gX D cI cJ cS ad adK adV) A s σ1 H1 locs1 → W p l e R s m args below meth c H1 locs1 cells slots Q (F0 m (pc + 3) ls rest)) : W p l e R s m args below meth c H locs cells slots Q (F0 m pc ls (.int x :: .ref (ad k) :: rest)) :=
  q_put (σ' := q_I σ k 10 x) (ty := .int) C0 hw (xN_0 hk) (xE_0 hk _ _) (by rw [xE_0 hk]; simp [q_I]) (fun a h => ⟨q_I_off h, rfl⟩) (j := 10) rfl hin tyX8 tyX8_ok nmX8 (by decide) hlink rfl rfl (by decide +kernel) rfl rfl (by simp) hdg (fun H1 locs1 hw => kk _ H1 locs1 rfl hw)
theorem gt_X8_11 (C0 : CallFix p m c cc nL s args Ts own) (hw : q_H (gX D cI cJ cS ad adK adV) A s σ H locs) (hk : xK k = 0) (hin : ∀ w ∈ wsX80, w ∈ Ts) (hlink : Cond.fieldLink own index "MouldThatComesOff" "orderRing" "I" ∈ Ts) (hdg : decode cc pc = .ok (.getfield index, 3))
    (kk : W p l e R s m args below meth c H locs cells slots Q (F0 m (pc + 3) ls (.int (σ.1 k 11) :: rest))) : W p l e R s m args below meth c H locs cells slots Q (F0 m pc ls (.ref (ad k) :: rest)) :=
  q_get C0 hw (xN_0 hk) (xE_0 hk _ _) (j := 11) rfl hin (by decide) hlink rfl rfl hdg kk
theorem pt_X8_11 {x : Int32} (C0 : CallFix p m c cc nL s args Ts own) (hw : q_H (gX D cI cJ cS ad adK adV) A s σ H locs) (hk : xK k = 0) (hin : ∀ w ∈ wsX80, w ∈ Ts) (hlink : Cond.fieldLink own index "MouldThatComesOff" "orderRing" "I" ∈ Ts) (hdg : decode cc pc = .ok (.putfield index, 3))
    (kk : ∀ (σ1 : q_M) (H1 : Heap) (locs1 : List Loc), σ1 = q_I σ k 11 x → q_H (gX D cI cJ cS ad adK adV) A s σ1 H1 locs1 → W p l e R s m args below meth c H1 locs1 cells slots Q (F0 m (pc + 3) ls rest)) : W p l e R s m args below meth c H locs cells slots Q (F0 m pc ls (.int x :: .ref (ad k) :: rest)) :=
  q_put (σ' := q_I σ k 11 x) (ty := .int) C0 hw (xN_0 hk) (xE_0 hk _ _) (by rw [xE_0 hk]; simp [q_I]) (fun a h => ⟨q_I_off h, rfl⟩) (j := 11) rfl hin tyX8 tyX8_ok nmX8 (by decide) hlink rfl rfl (by decide +kernel) rfl rfl (by simp) hdg (fun H1 locs1 hw => kk _ H1 locs1 rfl hw)
end XR
