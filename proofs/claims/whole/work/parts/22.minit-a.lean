theorem va_AOA.moved {ty : FieldType} {u U : State} (hvm : u.vm.Alike U.vm) (h : va_AOA ty u) : va_AOA ty U := by
  unfold va_AOA at h ⊢
  simp only [Cond.before, Cond.holds, Cond.value] at h ⊢
  rw [hvm.findClass]
  cases hf : u.vm.findClass (FieldType.array ty).toString with
  | none => rw [hf] at h; simp at h
  | some comp =>
    rw [hf] at h
    simp only [Option.bind_some] at h ⊢
    rw [hvm.findIdx_congr _ (fun _ _ _ _ => rfl)]
    generalize Array.findIdx? _ u.vm.classes = fi at h ⊢
    cases fi with
    | none => simp at h
    | some c =>
      simp only [Option.bind_some] at h ⊢
      cases hk : u.vm.classes[c]? with
      | none => rw [hk] at h; simp at h
      | some k =>
        obtain ⟨k', hk', ek⟩ := hvm.2.2 _ _ hk
        rw [hk] at h
        rw [hk', hvm.findClass]
        have ekind : k'.kind = k.kind := by rw [ek]
        simp only [Option.map_some] at h ⊢
        rw [ekind]
        exact h
theorem c_perm {D : va_G} {tys : List (ClassId × FieldType)} {adK adV : Nat → Nat} {A : Nat → Prop} {s : State} {w w' : va_W} {H : Heap} {locs : List Loc} (hw : c_H D tys adK adV A s w H locs) (is : List Nat) (hn : va_nd is = true) (hs : is.map (fun i => w[i]?) = w'.map some) : c_H D tys adK adV A s w' H locs := by
  refine ⟨hw.1, ?_, hw.2.2.1.sub is hn hs, hw.2.2.2⟩
  intro k q hq
  have h1 : (is.map (fun i => w[i]?))[k]? = some (some q) := by rw [hs, List.getElem?_map, hq]; rfl
  rw [List.getElem?_map] at h1
  cases hi : is[k]? with
  | none => rw [hi] at h1; cases h1
  | some i => rw [hi] at h1; exact hw.2.1 i q (Option.some.inj h1)
section
variable {p : Program} {l : Launch} {e : Env} {R : Room} {s : State} {m : MethodId} {args : Array Value} {below : List Frame} {meth : Method} {c : Code} {H : Heap} {locs : List Loc} {cells slots : Nat} {Q : State → Prop} {cc : ByteArray} {nL index pc : Nat} {Ts : List Cond} {own : String} {rest : List Value} {ls : Array Slot} {D : va_G} {tys : List (ClassId × FieldType)} {adK adV : Nat → Nat} {A : Nat → Prop} {w : va_W}
theorem c_mna {cJ cR : ClassId} {t1 t2 : Nat} (C0 : CallFix p m c cc nL s args Ts own) (hw : c_H D tys adK adV A s w H locs) (ht1 : tys[t1]? = some (cJ, .long)) (ht2 : tys[t2]? = some (cR, .array .long)) (hcl : Cond.classLink own index "[[J" ∈ Ts) (hover : va_AOA .long s) (harr : Cond.arrayClass .long ∈ Ts) (hcells : cells + (1 + 8) ≤ R.cells) (hslots : slots + (8 + 8 * 40) ≤ R.slots) (hdg : decode cc pc = .ok (.multianewarray index 2, 4))
    (kk : ∀ (q : Nat) (r : Nat → Nat) (H1 : Heap), c_H D tys adK adV A s (w ++ [(q, .inl (cR, 8, .inr (.inr (.inr (.inr (fun i => if i < 8 then some (r i) else none)))))), (r 0, .inl (cJ, 40, .inr (.inl (fun _ => 0)))), (r 1, .inl (cJ, 40, .inr (.inl (fun _ => 0)))), (r 2, .inl (cJ, 40, .inr (.inl (fun _ => 0)))), (r 3, .inl (cJ, 40, .inr (.inl (fun _ => 0)))), (r 4, .inl (cJ, 40, .inr (.inl (fun _ => 0)))), (r 5, .inl (cJ, 40, .inr (.inl (fun _ => 0)))), (r 6, .inl (cJ, 40, .inr (.inl (fun _ => 0)))), (r 7, .inl (cJ, 40, .inr (.inl (fun _ => 0))))]) H1 locs →
      W p l e R s m args below meth c H1 locs (cells + 1 + 8) (slots + 8 + 8 * 40) Q (F0 m (pc + 4) ls (.ref q :: rest))) : W p l e R s m args below meth c H locs cells slots Q (F0 m pc ls (.int 40 :: .int 8 :: rest)) := by
  have e0 : w ++ va_pl [] (fun _ => (.inr (0, []) : va_E)) = w := by simp [va_pl]
  refine va_mna (X := w) (L := []) (f := fun _ => .inr (0, [])) (ty := .long) (cy := cJ) (N' := 8) (K' := 40) (z := (40, .inr (.inl (fun _ => 0)))) C0.1 C0.2.1 C0.2.2.2.1 (C0.2.2.2.2 _ hcl) hover (C0.2.2.2.2 _ harr) (hw.1.2 t1 _ ht1).2 hw.1 (by rw [e0]; exact hw.2.1) (by rw [e0]; exact hw.2.2.1) hw.2.2.2.1 hw.2.2.2.2.1 (by decide) (by decide) (by decide) (by decide) (by decide) (by decide) (by decide) rfl rfl hcells hslots (fun c => ?_) hdg (fun q r cA H1 hr1 hr2 hK hP hD hS => ?_)
  · show Jvm.Free.Multi.innerC c 40 (defaultValue .long) = arrV c 40 (fun _ => .long 0)
    rw [← arrV_new]
    rfl
  · have e1 : some cA = some cR := (hK.2 tys.length (cA, .array .long) (by simp)).2.symm.trans (hw.1.2 t2 _ ht2).2
    cases e1
    have hr : ∀ j, j < 8 → vr_up (fun _ => (.inr (0, []) : va_E)) ((List.range 8).map r) (.inl (cJ, (40, .inr (.inl (fun _ => 0))))) (r j) = .inl (cJ, (40, .inr (.inl (fun _ => 0)))) := fun j hj => vr_up_in (List.mem_map.mpr ⟨j, List.mem_range.mpr hj, rfl⟩)
    have e2 : va_pl ([] ++ (List.range 8).map r) (vr_up (fun _ => (.inr (0, []) : va_E)) ((List.range 8).map r) (.inl (cJ, (40, .inr (.inl (fun _ => 0)))))) = [(r 0, .inl (cJ, 40, .inr (.inl (fun _ => 0)))), (r 1, .inl (cJ, 40, .inr (.inl (fun _ => 0)))), (r 2, .inl (cJ, 40, .inr (.inl (fun _ => 0)))), (r 3, .inl (cJ, 40, .inr (.inl (fun _ => 0)))), (r 4, .inl (cJ, 40, .inr (.inl (fun _ => 0)))), (r 5, .inl (cJ, 40, .inr (.inl (fun _ => 0)))), (r 6, .inl (cJ, 40, .inr (.inl (fun _ => 0)))), (r 7, .inl (cJ, 40, .inr (.inl (fun _ => 0))))] := by
      unfold va_pl
      generalize hv : vr_up (fun _ => (.inr (0, []) : va_E)) ((List.range 8).map r) (.inl (cJ, (40, .inr (.inl (fun _ => 0))))) = v at hr
      show [(r 0, v (r 0)), (r 1, v (r 1)), (r 2, v (r 2)), (r 3, v (r 3)), (r 4, v (r 4)), (r 5, v (r 5)), (r 6, v (r 6)), (r 7, v (r 7))] = _
      rw [hr 0 (by decide), hr 1 (by decide), hr 2 (by decide), hr 3 (by decide), hr 4 (by decide), hr 5 (by decide), hr 6 (by decide), hr 7 (by decide)]
    rw [e2, List.append_assoc] at hP hD
    exact kk q r H1 ⟨hw.1, hP, hD, hS, hw.2.2.2.2⟩
end
section
variable {l : Launch} {D : va_G} {cI cJ cR : ClassId} {adK adV : Nat → Nat}
abbrev tyM_ (cI cJ cR : ClassId) : List (ClassId × FieldType) := [(cI, .int), (cJ, .long), (cR, .array .long)]
theorem iX9_init_X9 : ∀ w ∈ wsX90, w ∈ wsX9_init := by decide +kernel
def oMd (D : va_G) (cI cJ cR : ClassId) (adK adV : Nat → Nat) (σ : q_M) (h0 : Nat) (ad : Nat → Nat) : va_W := q_ws (gM D cI cJ cR (fun k => if k = 0 then h0 else ad k) adK adV 29) σ
theorem eX9_showOnes_ : yX9_showOnes.cls = RX9 ∧ yX9_showOnes.cls ≠ "java/lang/invoke/MethodHandle" ∧ yX9_showOnes.cls ≠ "java/lang/invoke/VarHandle" ∧ (parseMethodDescriptor yX9_showOnes.desc).map (fun d => d.parameters.length) = some 0 := by decide +kernel
end
